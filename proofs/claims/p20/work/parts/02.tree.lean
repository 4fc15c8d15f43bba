/-! trees: a leaf keeps its own number, so that reading behind a write needs no order -/
noncomputable def xg {α : Type} (t : Lean.RArray (Nat × α)) (k : Nat) : Option α :=
  Lean.RArray.rec (motive := fun _ => Option α) (fun q => cond (Nat.beq q.1 k) (some q.2) none) (fun p _ _ gl gr => cond (Nat.ble p k) gr gl) t
theorem xg_leaf {α : Type} (q : Nat × α) (k : Nat) : xg (.leaf q) k = cond (Nat.beq q.1 k) (some q.2) none := rfl
theorem xg_branch {α : Type} (p : Nat) (a b : Lean.RArray (Nat × α)) (k : Nat) : xg (.branch p a b) k = cond (Nat.ble p k) (xg b k) (xg a k) := rfl
noncomputable def xw {α : Type} (t : Lean.RArray (Nat × α)) (k : Nat) (v : α) : Lean.RArray (Nat × α) :=
  Lean.RArray.rec (motive := fun _ => Lean.RArray (Nat × α)) (fun q => .leaf (cond (Nat.beq q.1 k) (k, v) q)) (fun p a b sa sb => cond (Nat.ble p k) (.branch p a sb) (.branch p sa b)) t
theorem xw_leaf {α : Type} (q : Nat × α) (k : Nat) (v : α) : xw (.leaf q) k v = .leaf (cond (Nat.beq q.1 k) (k, v) q) := rfl
theorem xw_branch {α : Type} (p : Nat) (a b : Lean.RArray (Nat × α)) (k : Nat) (v : α) : xw (.branch p a b) k v = cond (Nat.ble p k) (.branch p a (xw b k v)) (.branch p (xw a k v) b) := rfl
/-- the same by a continuation: what it is given is written out -/
noncomputable def xsK {α β : Type} (t : Lean.RArray (Nat × α)) (k : Nat) (v : α) (c : Lean.RArray (Nat × α) → β) : β :=
  Lean.RArray.rec (motive := fun _ => (Lean.RArray (Nat × α) → β) → β) (fun q c => c (.leaf (cond (Nat.beq q.1 k) (k, v) q))) (fun p a b sa sb c => cond (Nat.ble p k) (sb (fun b' => c (.branch p a b'))) (sa (fun a' => c (.branch p a' b)))) t c
theorem xsK_eq {α β : Type} (t : Lean.RArray (Nat × α)) (k : Nat) (v : α) : ∀ (c : Lean.RArray (Nat × α) → β), xsK t k v c = c (xw t k v) := by
  induction t with
  | leaf q => intro c; rfl
  | branch p a b iha ihb =>
    intro c
    rw [xw_branch]
    show cond (Nat.ble p k) (xsK b k v (fun b' => c (.branch p a b'))) (xsK a k v (fun a' => c (.branch p a' b))) = _
    rw [iha, ihb]
    cases Nat.ble p k <;> rfl
theorem xg_self {α : Type} (t : Lean.RArray (Nat × α)) (k : Nat) (v w : α) (h : xg t k = some w) : xg (xw t k v) k = some v := by
  induction t with
  | leaf q =>
    rw [xg_leaf] at h
    rw [xw_leaf, xg_leaf]
    cases hb : Nat.beq q.1 k with
    | false => rw [hb] at h; cases h
    | true => simp
  | branch p a b iha ihb =>
    rw [xg_branch] at h
    rw [xw_branch]
    cases hb : Nat.ble p k with
    | true => rw [hb] at h; simp only [cond_true] at h ⊢; rw [xg_branch, hb]; exact ihb h
    | false => rw [hb] at h; simp only [cond_false] at h ⊢; rw [xg_branch, hb]; exact iha h
theorem xg_other {α : Type} (t : Lean.RArray (Nat × α)) (k j : Nat) (v : α) (h : j ≠ k) : xg (xw t k v) j = xg t j := by
  induction t with
  | leaf q =>
    rw [xw_leaf, xg_leaf, xg_leaf]
    cases hb : Nat.beq q.1 k with
    | false => rfl
    | true =>
      have e : q.1 = k := Nat.eq_of_beq_eq_true hb
      have n1 : Nat.beq k j = false := by
        cases hx : Nat.beq k j with
        | false => rfl
        | true => exact absurd (Nat.eq_of_beq_eq_true hx).symm h
      simp only [cond_true, e, n1, cond_false]
  | branch p a b iha ihb =>
    rw [xw_branch]
    cases hb : Nat.ble p k with
    | true =>
      simp only [cond_true]
      rw [xg_branch, xg_branch, ihb]
    | false =>
      simp only [cond_false]
      rw [xg_branch, xg_branch, iha]
/-- all leaves -/
noncomputable def xall {α : Type} (t : Lean.RArray (Nat × α)) (f : Nat → α → Bool) : Bool :=
  Lean.RArray.rec (motive := fun _ => Bool) (fun q => f q.1 q.2) (fun _ _ _ a b => cond a b false) t
theorem xall_get {α : Type} (t : Lean.RArray (Nat × α)) (f : Nat → α → Bool) (h : xall t f = true) (k : Nat) (v : α) (hg : xg t k = some v) : f k v = true := by
  induction t with
  | leaf q =>
    rw [xg_leaf] at hg
    cases hb : Nat.beq q.1 k with
    | false => rw [hb] at hg; cases hg
    | true =>
      rw [hb] at hg
      have e : q.1 = k := Nat.eq_of_beq_eq_true hb
      have e2 : q.2 = v := Option.some.inj hg
      rw [← e, ← e2]
      exact h
  | branch p a b iha ihb =>
    have h' : cond (xall a f) (xall b f) false = true := h
    rw [xg_branch] at hg
    cases ha : xall a f with
    | false => rw [ha] at h'; cases h'
    | true =>
      rw [ha] at h'
      cases hb : Nat.ble p k with
      | true => rw [hb] at hg; exact ihb h' hg
      | false => rw [hb] at hg; exact iha ha hg
/-- a tree of n places from lo on, all v -/
def xmk {α : Type} (v : α) : Nat → Nat → Nat → Lean.RArray (Nat × α)
  | 0, lo, _ => .leaf (lo, v)
  | f + 1, lo, n => cond (Nat.ble n 1) (.leaf (lo, v)) (.branch (lo + n / 2) (xmk v f lo (n / 2)) (xmk v f (lo + n / 2) (n - n / 2)))
theorem xmk_get {α : Type} (v : α) : ∀ (f lo n k : Nat), n ≤ 2 ^ f → lo ≤ k → k < lo + n → xg (xmk v f lo n) k = some v
  | 0, lo, n, k, hn, h1, h2 => by
    have e : lo = k := by simp at hn; omega
    show cond (Nat.beq lo k) (some v) none = some v
    rw [e, Nat.beq_refl]; rfl
  | f + 1, lo, n, k, hn, h1, h2 => by
    show xg (cond (Nat.ble n 1) (.leaf (lo, v)) (.branch (lo + n / 2) (xmk v f lo (n / 2)) (xmk v f (lo + n / 2) (n - n / 2)))) k = some v
    have hp : 2 ^ (f + 1) = 2 ^ f + 2 ^ f := by rw [Nat.pow_succ]; omega
    cases hb : Nat.ble n 1 with
    | true =>
      have : n ≤ 1 := Nat.le_of_ble_eq_true hb
      have e : lo = k := by omega
      show cond (Nat.beq lo k) (some v) none = some v
      rw [e, Nat.beq_refl]; rfl
    | false =>
      have hn1 : ¬ n ≤ 1 := fun q => by rw [Nat.ble_eq_true_of_le q] at hb; cases hb
      simp only [cond_false]
      rw [xg_branch]
      cases hc : Nat.ble (lo + n / 2) k with
      | true =>
        have := Nat.le_of_ble_eq_true hc
        exact xmk_get v f (lo + n / 2) (n - n / 2) k (by omega) (by omega) (by omega)
      | false =>
        have : ¬ lo + n / 2 ≤ k := fun q => by rw [Nat.ble_eq_true_of_le q] at hc; cases hc
        exact xmk_get v f lo (n / 2) k (by omega) h1 (by omega)
