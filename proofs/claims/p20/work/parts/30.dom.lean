/-! Linear expressions over symbols, intervals, facts -/
abbrev ae : Type := Int × List (Nat × Int)
abbrev aenv : Type := Lean.RArray (Nat × Option (Int × Int))
theorem xcnb {b x : Bool} (h : cond b x false = true) : b = true ∧ x = true := by cases b <;> simp_all
theorem xcnt {b x : Bool} (h : cond b true x = true) : b = true ∨ x = true := by cases b <;> simp_all
def evl (ρ : Nat → Int) : List (Nat × Int) → Int
  | [] => 0
  | q :: l => q.2 * ρ q.1 + evl ρ l
def ev (ρ : Nat → Int) (e : ae) : Int := e.1 + evl ρ e.2
/-! numbers, quick for the kernel -/
def zle (a b : Int) : Bool := match a, b with
  | .ofNat m, .ofNat n => Nat.ble m n
  | .negSucc _, .ofNat _ => true
  | .ofNat _, .negSucc _ => false
  | .negSucc m, .negSucc n => Nat.ble n m
def zeq (a b : Int) : Bool := match a, b with
  | .ofNat m, .ofNat n => Nat.beq m n
  | .negSucc _, .ofNat _ => false
  | .ofNat _, .negSucc _ => false
  | .negSucc m, .negSucc n => Nat.beq m n
def zlt (a b : Int) : Bool := !zle b a
theorem zle_iff : ∀ {a b : Int}, zle a b = true ↔ a ≤ b
  | .ofNat m, .ofNat n => ⟨fun h => Int.ofNat_le.mpr (Nat.le_of_ble_eq_true h), fun h => Nat.ble_eq_true_of_le (Int.ofNat_le.mp h)⟩
  | .negSucc m, .ofNat n => ⟨fun _ => by have : (Int.negSucc m) < 0 := Int.negSucc_lt_zero m; have : (0 : Int) ≤ Int.ofNat n := Int.natCast_nonneg n; omega, fun _ => rfl⟩
  | .ofNat m, .negSucc n => ⟨fun h => (by cases h), fun h => by have : (Int.negSucc n) < 0 := Int.negSucc_lt_zero n; have : (0 : Int) ≤ Int.ofNat m := Int.natCast_nonneg m; omega⟩
  | .negSucc m, .negSucc n => ⟨fun h => by have := Nat.le_of_ble_eq_true (show Nat.ble n m = true from h); rw [Int.negSucc_eq, Int.negSucc_eq]; omega, fun h => by rw [Int.negSucc_eq, Int.negSucc_eq] at h; exact Nat.ble_eq_true_of_le (by omega)⟩
theorem zeq_iff : ∀ {a b : Int}, zeq a b = true ↔ a = b
  | .ofNat m, .ofNat n => ⟨fun h => congrArg _ (Nat.eq_of_beq_eq_true h), fun h => (by cases h; exact Nat.beq_refl _)⟩
  | .negSucc m, .ofNat n => ⟨fun h => (by cases h), fun h => (by cases h)⟩
  | .ofNat m, .negSucc n => ⟨fun h => (by cases h), fun h => (by cases h)⟩
  | .negSucc m, .negSucc n => ⟨fun h => congrArg _ (Nat.eq_of_beq_eq_true h), fun h => (by cases h; exact Nat.beq_refl _)⟩
theorem zlt_iff {a b : Int} : zlt a b = true ↔ a < b := by
  unfold zlt
  cases h : zle b a with
  | true => have := zle_iff.mp h; constructor
            · intro z; cases z
            · intro z; omega
  | false => constructor
             · intro _
               have : ¬ b ≤ a := fun z => by rw [zle_iff.mpr z] at h; cases h
               omega
             · intro _; rfl
theorem zle_f {a b : Int} (h : zle a b = false) : b < a := by
  have : ¬ a ≤ b := fun z => by rw [zle_iff.mpr z] at h; cases h
  omega
def zmn (a b : Int) : Int := cond (zle a b) a b
def zmx (a b : Int) : Int := cond (zle a b) b a
theorem zmn_l (a b : Int) : zmn a b ≤ a := by
  unfold zmn; cases h : zle a b with
  | true => exact Int.le_refl _
  | false => exact Int.le_of_lt (zle_f h)
theorem zmn_r (a b : Int) : zmn a b ≤ b := by
  unfold zmn; cases h : zle a b with
  | true => exact zle_iff.mp h
  | false => exact Int.le_refl _
theorem zmn_of {a b c : Int} (h1 : c ≤ a) (h2 : c ≤ b) : c ≤ zmn a b := by
  unfold zmn; cases zle a b <;> assumption
theorem zmx_l (a b : Int) : a ≤ zmx a b := by
  unfold zmx; cases h : zle a b with
  | true => exact zle_iff.mp h
  | false => exact Int.le_refl _
theorem zmx_r (a b : Int) : b ≤ zmx a b := by
  unfold zmx; cases h : zle a b with
  | true => exact Int.le_refl _
  | false => exact Int.le_of_lt (zle_f h)
theorem zmx_of {a b c : Int} (h1 : a ≤ c) (h2 : b ≤ c) : zmx a b ≤ c := by
  unfold zmx; cases zle a b <;> assumption
noncomputable def zfrc {β : Type} (z : Int) (c : Int → β) : β := Int.rec (motive := fun _ => β) (fun n => xfrc n (fun m => c (.ofNat m))) (fun n => xfrc n (fun m => c (.negSucc m))) z
theorem zfrc_eq {β : Type} (z : Int) (c : Int → β) : zfrc z c = c z := by
  cases z with
  | ofNat n => exact xfrc_eq n (fun m => c (.ofNat m))
  | negSucc n => exact xfrc_eq n (fun m => c (.negSucc m))
noncomputable def lfrc {β : Type} (l : List (Nat × Int)) (c : List (Nat × Int) → β) : β :=
  List.rec (motive := fun _ => (List (Nat × Int) → β) → β) (fun c => c []) (fun q _ r c => xfrc q.1 (fun s => zfrc q.2 (fun z => r (fun m => c ((s, z) :: m))))) l c
theorem lfrc_eq {β : Type} : ∀ (l : List (Nat × Int)) (c : List (Nat × Int) → β), lfrc l c = c l
  | [], _ => rfl
  | q :: l, c => by
    show xfrc q.1 (fun s => zfrc q.2 (fun z => lfrc l (fun m => c ((s, z) :: m)))) = _
    rw [xfrc_eq, zfrc_eq, lfrc_eq l]
noncomputable def efrc {β : Type} (e : ae) (c : ae → β) : β := zfrc e.1 (fun z => lfrc e.2 (fun l => c (z, l)))
theorem efrc_eq {β : Type} (e : ae) (c : ae → β) : efrc e c = c e := by unfold efrc; rw [zfrc_eq, lfrc_eq]
/-! sums -/
def eins (s : Nat) (c : Int) : List (Nat × Int) → List (Nat × Int)
  | [] => [(s, c)]
  | q :: l => cond (Nat.beq q.1 s) (cond (zeq (Int.add q.2 c) 0) l ((s, Int.add q.2 c) :: l)) (cond (Nat.ble s q.1) ((s, c) :: q :: l) (q :: eins s c l))
theorem eins_ev (ρ : Nat → Int) (s : Nat) (c : Int) : ∀ l, evl ρ (eins s c l) = c * ρ s + evl ρ l
  | [] => rfl
  | q :: l => by
    show evl ρ (cond (Nat.beq q.1 s) (cond (zeq (Int.add q.2 c) 0) l ((s, Int.add q.2 c) :: l)) (cond (Nat.ble s q.1) ((s, c) :: q :: l) (q :: eins s c l))) = c * ρ s + (q.2 * ρ q.1 + evl ρ l)
    cases h : Nat.beq q.1 s with
    | true =>
      have e := Nat.eq_of_beq_eq_true h
      rw [e]
      have hd : (Int.add q.2 c) * ρ s = q.2 * ρ s + c * ρ s := Int.add_mul q.2 c (ρ s)
      cases hz : zeq (Int.add q.2 c) 0 with
      | true =>
        have hz := zeq_iff.mp hz
        rw [hz, Int.zero_mul] at hd
        simp only [cond_true]
        omega
      | false =>
        simp only [cond_true, cond_false]
        show (Int.add q.2 c) * ρ s + evl ρ l = _
        omega
    | false =>
      simp only [cond_false]
      cases Nat.ble s q.1 with
      | true => rfl
      | false =>
        show q.2 * ρ q.1 + evl ρ (eins s c l) = _
        rw [eins_ev ρ s c l]
        omega
/-- a + k b -/
def eaddl (k : Int) : List (Nat × Int) → List (Nat × Int) → List (Nat × Int)
  | [], l => l
  | q :: m, l => eaddl k m (eins q.1 (Int.mul k q.2) l)
theorem eaddl_ev (ρ : Nat → Int) (k : Int) : ∀ m l, evl ρ (eaddl k m l) = evl ρ l + k * evl ρ m
  | [], l => by show evl ρ l = evl ρ l + k * 0; rw [Int.mul_zero, Int.add_zero]
  | q :: m, l => by
    show evl ρ (eaddl k m (eins q.1 (Int.mul k q.2) l)) = evl ρ l + k * (q.2 * ρ q.1 + evl ρ m)
    rw [eaddl_ev ρ k m, eins_ev, Int.mul_add, ← Int.mul_assoc]
    show k * q.2 * ρ q.1 + evl ρ l + k * evl ρ m = _
    omega
def eadd (a b : ae) (k : Int) : ae := cond (zeq k 0) a (Int.add a.1 (Int.mul k b.1), eaddl k b.2 a.2)
theorem eadd_ev (ρ : Nat → Int) (a b : ae) (k : Int) : ev ρ (eadd a b k) = ev ρ a + k * ev ρ b := by
  unfold eadd
  cases h : zeq k 0 with
  | true =>
    rw [zeq_iff.mp h, Int.zero_mul, Int.add_zero]; rfl
  | false =>
    show (a.1 + k * b.1) + evl ρ (eaddl k b.2 a.2) = (a.1 + evl ρ a.2) + k * (b.1 + evl ρ b.2)
    rw [eaddl_ev, Int.mul_add]
    omega
def ecst (c : Int) : ae := (c, [])
theorem ecst_ev (ρ : Nat → Int) (c : Int) : ev ρ (ecst c) = c := by show c + 0 = c; omega
def esym (s : Nat) : ae := (0, [(s, 1)])
theorem esym_ev (ρ : Nat → Int) (s : Nat) : ev ρ (esym s) = ρ s := by show 0 + (1 * ρ s + 0) = ρ s; omega
def eadc (a : ae) (c : Int) : ae := (Int.add a.1 c, a.2)
theorem eadc_ev (ρ : Nat → Int) (a : ae) (c : Int) : ev ρ (eadc a c) = ev ρ a + c := by
  show (a.1 + c) + evl ρ a.2 = (a.1 + evl ρ a.2) + c
  omega
def escl (a : ae) (k : Int) : ae := eadd (0, []) a k
theorem escl_ev (ρ : Nat → Int) (a : ae) (k : Int) : ev ρ (escl a k) = k * ev ρ a := by
  unfold escl
  rw [eadd_ev]
  show 0 + 0 + _ = _
  omega
/-! intervals -/
def envR (env : aenv) (ρ : Nat → Int) : Prop := ∀ (s : Nat) (i : Int × Int), xg env s = some (some i) → i.1 ≤ ρ s ∧ ρ s ≤ i.2
noncomputable def eub (env : aenv) : List (Nat × Int) → Int → Option Int
  | [], acc => some acc
  | q :: l, acc => match xg env q.1 with
    | some (some i) => zfrc (Int.add acc (Int.mul q.2 (cond (zle 0 q.2) i.2 i.1))) (fun a => eub env l a)
    | _ => none
theorem mul_ub {k x lo hi : Int} (h1 : lo ≤ x) (h2 : x ≤ hi) : k * x ≤ Int.mul k (cond (zle 0 k) hi lo) := by
  show k * x ≤ k * (cond (zle 0 k) hi lo)
  cases h : zle 0 k with
  | true => exact Int.mul_le_mul_of_nonneg_left h2 (zle_iff.mp h)
  | false =>
    have hk := zle_f h
    exact Int.mul_le_mul_of_nonpos_left (by omega) h1
theorem eub_ok {env : aenv} {ρ : Nat → Int} (hE : envR env ρ) : ∀ (l : List (Nat × Int)) (acc u : Int), eub env l acc = some u → acc + evl ρ l ≤ u
  | [], acc, u, h => by
    have : acc = u := Option.some.inj h
    show acc + 0 ≤ u
    omega
  | q :: l, acc, u, h => by
    unfold eub at h
    split at h
    · rename_i i hg
      rw [zfrc_eq] at h
      have ih := eub_ok hE l _ u h
      obtain ⟨a1, a2⟩ := hE q.1 i hg
      have := mul_ub (k := q.2) a1 a2
      show acc + (q.2 * ρ q.1 + evl ρ l) ≤ u
      have e : Int.add acc (Int.mul q.2 (cond (zle 0 q.2) i.2 i.1)) = acc + Int.mul q.2 (cond (zle 0 q.2) i.2 i.1) := rfl
      rw [e] at ih
      omega
    · cases h
noncomputable def eu (env : aenv) (e : ae) : Option Int := eub env e.2 e.1
theorem eu_ok {env : aenv} {ρ : Nat → Int} (hE : envR env ρ) {e : ae} {u : Int} (h : eu env e = some u) : ev ρ e ≤ u := eub_ok hE e.2 e.1 u h
/-! facts: each is at most 0 -/
def fxR (fx : List ae) (ρ : Nat → Int) : Prop := ∀ f ∈ fx, ev ρ f ≤ 0
/-- a symbol of one sign in both -/
def esh1 (q : Nat × Int) : List (Nat × Int) → Bool
  | [] => false
  | r :: l => cond (Nat.beq q.1 r.1) (cond (zle 0 q.2) (zle 0 r.2) (zle r.2 0)) (esh1 q l)
def eshr (e : List (Nat × Int)) : List (Nat × Int) → Bool
  | [] => false
  | q :: l => cond (esh1 q e) true (eshr e l)
/-- is e at most 0, by the facts: d of them, one behind another -/
noncomputable def elef (env : aenv) (fx : List ae) : Nat → ae → Bool
  | 0, e => match eu env e with
    | none => false
    | some u => zle u 0
  | d + 1, e => match eu env e with
    | none => false
    | some u => cond (zle u 0) true (fx.any (fun f => cond (eshr e.2 f.2) (efrc (eadd e f (-1)) (fun x => elef env fx d x)) false))
theorem elef_ok {env : aenv} {ρ : Nat → Int} {fx : List ae} (hE : envR env ρ) (hF : fxR fx ρ) : ∀ (d : Nat) (e : ae), elef env fx d e = true → ev ρ e ≤ 0
  | 0, e, h => by
    unfold elef at h
    cases hu : eu env e with
    | none => rw [hu] at h; cases h
    | some u =>
      rw [hu] at h
      have := eu_ok hE hu
      have := zle_iff.mp h
      omega
  | d + 1, e, h => by
    unfold elef at h
    cases hu : eu env e with
    | none => rw [hu] at h; cases h
    | some u =>
      rw [hu] at h
      dsimp only at h
      cases hz : zle u 0 with
      | true =>
        have := eu_ok hE hu
        have := zle_iff.mp hz
        omega
      | false =>
        rw [hz] at h
        simp only [cond_false] at h
        obtain ⟨f, hf, h2⟩ := List.any_eq_true.mp h
        obtain ⟨-, h3⟩ := xcnb h2
        rw [efrc_eq] at h3
        have := elef_ok hE hF d _ h3
        rw [eadd_ev] at this
        have := hF f hf
        omega
/-! the same as a number -/
noncomputable def eubf (env : aenv) (fx : List ae) : Nat → ae → Option Int
  | 0, e => eu env e
  | d + 1, e => match eu env e with
    | none => none
    | some u => some (fx.foldl (fun u f => cond (eshr e.2 f.2) (efrc (eadd e f (-1)) (fun x => match eubf env fx d x with
      | none => u
      | some w => zmn u w)) u) u)
theorem eubf_fold {α : Type} {x : Int} {F : Int → α → Int} : ∀ (l : List α) (u : Int), (∀ u, ∀ f ∈ l, x ≤ u → x ≤ F u f) → x ≤ u → x ≤ l.foldl F u
  | [], _, _, h => h
  | f :: l, u, hF, h => eubf_fold l (F u f) (fun u g hg => hF u g (List.mem_cons_of_mem _ hg)) (hF u f List.mem_cons_self h)
theorem eubf_ok {env : aenv} {ρ : Nat → Int} {fx : List ae} (hE : envR env ρ) (hF : fxR fx ρ) : ∀ (d : Nat) (e : ae) (u : Int), eubf env fx d e = some u → ev ρ e ≤ u
  | 0, e, u, h => eu_ok hE h
  | d + 1, e, u, h => by
    unfold eubf at h
    cases hu : eu env e with
    | none => rw [hu] at h; cases h
    | some u0 =>
      rw [hu] at h
      have h := Option.some.inj h
      rw [← h]
      refine eubf_fold fx u0 (fun u f hf hx => ?_) (eu_ok hE hu)
      cases hs : eshr e.2 f.2 with
      | false => exact hx
      | true =>
        simp only [cond_true]
        rw [efrc_eq]
        cases hw : eubf env fx d (eadd e f (-1)) with
        | none => exact hx
        | some w =>
          dsimp only
          refine zmn_of hx ?_
          have := eubf_ok hE hF d _ w hw
          rw [eadd_ev] at this
          have := hF f hf
          omega
/-- lower and upper bound, by the facts -/
noncomputable def ebd (env : aenv) (fx : List ae) (e : ae) : Option (Int × Int) :=
  match e.2 with
  | [] => some (e.1, e.1)
  | _ => match eubf env fx 2 e with
    | none => none
    | some u => efrc (escl e (-1)) (fun x => match eubf env fx 2 x with
      | none => none
      | some w => some (Int.neg w, u))
theorem ebd_ok {env : aenv} {ρ : Nat → Int} {fx : List ae} (hE : envR env ρ) (hF : fxR fx ρ) {e : ae} {i : Int × Int} (h : ebd env fx e = some i) : i.1 ≤ ev ρ e ∧ ev ρ e ≤ i.2 := by
  unfold ebd at h
  split at h
  · rename_i hn
    have h := Option.some.inj h
    have : ev ρ e = e.1 := by unfold ev; rw [hn]; show e.1 + 0 = e.1; omega
    rw [← h, this]
    exact ⟨Int.le_refl _, Int.le_refl _⟩
  · cases hu : eubf env fx 2 e with
    | none => rw [hu] at h; cases h
    | some u =>
      rw [hu] at h
      dsimp only at h
      rw [efrc_eq] at h
      cases hw : eubf env fx 2 (escl e (-1)) with
      | none => rw [hw] at h; cases h
      | some w =>
        rw [hw] at h
        have h := Option.some.inj h
        rw [← h]
        have h1 := eubf_ok hE hF 2 _ u hu
        have h2 := eubf_ok hE hF 2 _ w hw
        rw [escl_ev] at h2
        refine ⟨?_, h1⟩
        show -w ≤ ev ρ e
        omega
/-- does e lie between lo and hi -/
noncomputable def efit (env : aenv) (fx : List ae) (e : ae) (lo hi : Int) : Bool :=
  match e.2 with
  | [] => cond (zle lo e.1) (zle e.1 hi) false
  | _ => efrc (eadc e (Int.neg hi)) (fun a => cond (elef env fx 2 a) (efrc (eadd (lo, []) e (-1)) (fun b => elef env fx 2 b)) false)
theorem efit_ok {env : aenv} {ρ : Nat → Int} {fx : List ae} (hE : envR env ρ) (hF : fxR fx ρ) {e : ae} {lo hi : Int} (h : efit env fx e lo hi = true) : lo ≤ ev ρ e ∧ ev ρ e ≤ hi := by
  unfold efit at h
  split at h
  · rename_i hn
    obtain ⟨h1, h2⟩ := xcnb h
    have : ev ρ e = e.1 := by unfold ev; rw [hn]; show e.1 + 0 = e.1; omega
    rw [this]
    exact ⟨zle_iff.mp h1, zle_iff.mp h2⟩
  · rw [efrc_eq] at h
    obtain ⟨h1, h2⟩ := xcnb h
    rw [efrc_eq] at h2
    have h1 := elef_ok hE hF 2 _ h1
    have h2 := elef_ok hE hF 2 _ h2
    rw [eadc_ev] at h1
    rw [eadd_ev] at h2
    have e1 : ev ρ ((lo, []) : ae) = lo := ecst_ev ρ lo
    rw [e1] at h2
    have e2 : Int.neg hi = -hi := rfl
    rw [e2] at h1
    constructor <;> omega
/-! what is assumed narrows the intervals -/
theorem xw_none {α : Type} (t : Lean.RArray (Nat × α)) (k : Nat) (v : α) (h : xg t k = none) : xg (xw t k v) k = none := by
  induction t with
  | leaf q =>
    rw [xg_leaf] at h
    rw [xw_leaf]
    cases hb : Nat.beq q.1 k with
    | true => rw [hb] at h; cases h
    | false => rw [hb] at h; simp only [cond_false]; rw [xg_leaf, hb]; rfl
  | branch p a b iha ihb =>
    rw [xg_branch] at h
    rw [xw_branch]
    cases hb : Nat.ble p k with
    | true => rw [hb] at h; simp only [cond_true] at h ⊢; rw [xg_branch, hb]; exact ihb h
    | false => rw [hb] at h; simp only [cond_false] at h ⊢; rw [xg_branch, hb]; exact iha h
theorem envR_set {env : aenv} {ρ : Nat → Int} (hE : envR env ρ) {s : Nat} {i : Int × Int} (h1 : i.1 ≤ ρ s) (h2 : ρ s ≤ i.2) : envR (xw env s (some i)) ρ := by
  intro t j ht
  by_cases e : t = s
  · subst e
    cases hg : xg env t with
    | none =>
      have := xw_none env t (some i) hg
      rw [this] at ht
      cases ht
    | some w =>
      rw [xg_self env t (some i) w hg] at ht
      have := Option.some.inj (Option.some.inj ht)
      rw [← this]
      exact ⟨h1, h2⟩
  · rw [xg_other env s t _ e] at ht
    exact hE t j ht
/-- n: what is at least 0; l: the symbols to narrow, with their factors in -n -/
noncomputable def anar (n : ae) : List (Nat × Int) → aenv → (aenv → Bool) → Bool
  | [], env, k => k env
  | q :: l, env, k => match xg env q.1 with
    | some (some i) => match eub env (eins q.1 q.2 n.2) n.1 with
      | none => false
      | some u => cond (zle q.2 0)
        (zfrc (Int.neg (Int.ediv u (Int.neg q.2))) (fun a => cond (zle a i.1) (anar n l env k) (cond (zle a i.2) (xsK env q.1 (some (a, i.2)) (fun env' => anar n l env' k)) true)))
        (zfrc (Int.ediv u q.2) (fun b => cond (zle i.2 b) (anar n l env k) (cond (zle i.1 b) (xsK env q.1 (some (i.1, b)) (fun env' => anar n l env' k)) true)))
    | _ => false
theorem zdiv_ub {k x u : Int} (hk : 0 < k) (h : k * x ≤ u) : x ≤ Int.ediv u k := by
  show x ≤ u / k
  rw [Int.le_ediv_iff_mul_le hk, Int.mul_comm]
  exact h
theorem zdiv_lb {k x u : Int} (hk : k < 0) (h : k * x ≤ u) : Int.neg (Int.ediv u (Int.neg k)) ≤ x := by
  have h1 : (-k) * (-x) ≤ u := by rw [Int.neg_mul_neg]; exact h
  have := zdiv_ub (k := -k) (x := -x) (u := u) (by omega) h1
  have e1 : Int.ediv u (Int.neg k) = Int.ediv u (-k) := rfl
  have e2 : Int.neg (Int.ediv u (Int.neg k)) = - Int.ediv u (-k) := rfl
  omega
theorem anar_ok {n : ae} {P : (Nat → Int) → Prop} (hP : ∃ ρ, P ρ) : ∀ (l : List (Nat × Int)) (env : aenv) (k : aenv → Bool), anar n l env k = true → (∀ ρ, P ρ → envR env ρ ∧ 0 ≤ ev ρ n) → (∀ q ∈ l, q.2 ≠ 0) → ∃ env', k env' = true ∧ ∀ ρ, P ρ → envR env' ρ
  | [], env, k, h, hR, _ => ⟨env, h, fun ρ p => (hR ρ p).1⟩
  | q :: l, env, k, h, hR, hz => by
    have hz' : ∀ q ∈ l, q.2 ≠ 0 := fun r hr => hz r (List.mem_cons_of_mem _ hr)
    have hq0 := hz q List.mem_cons_self
    unfold anar at h
    split at h
    · rename_i i hg
      cases hu : eub env (eins q.1 q.2 n.2) n.1 with
      | none => rw [hu] at h; cases h
      | some u =>
        rw [hu] at h
        dsimp only at h
        have key : ∀ ρ, P ρ → q.2 * ρ q.1 ≤ u := by
          intro ρ p
          obtain ⟨h1, h2⟩ := hR ρ p
          have h3 := eub_ok h1 _ _ u hu
          rw [eins_ev] at h3
          have h4 : ev ρ n = n.1 + evl ρ n.2 := rfl
          omega
        cases hs : zle q.2 0 with
        | true =>
          rw [hs] at h
          simp only [cond_true] at h
          rw [zfrc_eq] at h
          have hk : q.2 < 0 := by have := zle_iff.mp hs; omega
          cases h1 : zle (Int.neg (Int.ediv u (Int.neg q.2))) i.1 with
          | true => rw [h1] at h; exact anar_ok hP l env k h hR hz'
          | false =>
            rw [h1] at h
            simp only [cond_false] at h
            rcases hP with ⟨ρ0, p0⟩
            have hb0 := zdiv_lb hk (key ρ0 p0)
            have hi0 := (hR ρ0 p0).1 q.1 i hg
            cases h2 : zle (Int.neg (Int.ediv u (Int.neg q.2))) i.2 with
            | false => have := zle_f h2; omega
            | true =>
              rw [h2] at h
              simp only [cond_true] at h
              rw [xsK_eq] at h
              exact anar_ok ⟨ρ0, p0⟩ l _ k h (fun ρ p => ⟨envR_set (hR ρ p).1 (zdiv_lb hk (key ρ p)) ((hR ρ p).1 q.1 i hg).2, (hR ρ p).2⟩) hz'
        | false =>
          rw [hs] at h
          simp only [cond_false] at h
          rw [zfrc_eq] at h
          have hk : 0 < q.2 := zle_f hs
          cases h1 : zle i.2 (Int.ediv u q.2) with
          | true => rw [h1] at h; exact anar_ok hP l env k h hR hz'
          | false =>
            rw [h1] at h
            simp only [cond_false] at h
            rcases hP with ⟨ρ0, p0⟩
            have hb0 := zdiv_ub hk (key ρ0 p0)
            have hi0 := (hR ρ0 p0).1 q.1 i hg
            cases h2 : zle i.1 (Int.ediv u q.2) with
            | false => have := zle_f h2; omega
            | true =>
              rw [h2] at h
              simp only [cond_true] at h
              rw [xsK_eq] at h
              exact anar_ok ⟨ρ0, p0⟩ l _ k h (fun ρ p => ⟨envR_set (hR ρ p).1 ((hR ρ p).1 q.1 i hg).1 (zdiv_ub hk (key ρ p)), (hR ρ p).2⟩) hz'
    · cases h
/-- all facts narrow once -/
def znz : List (Nat × Int) → Bool
  | [] => true
  | q :: l => cond (zeq q.2 0) false (znz l)
theorem znz_ok : ∀ {l : List (Nat × Int)}, znz l = true → ∀ q ∈ l, q.2 ≠ 0
  | [], _, _, hq => absurd hq List.not_mem_nil
  | r :: l, h, q, hq => by
    unfold znz at h
    cases hz : zeq r.2 0 with
    | true => rw [hz] at h; cases h
    | false =>
      rw [hz] at h
      rcases List.mem_cons.mp hq with e | hq
      · rw [e]; intro z; rw [zeq_iff.mpr z] at hz; cases hz
      · exact znz_ok h q hq
noncomputable def aprp : List ae → aenv → (aenv → Bool) → Bool
  | [], env, k => k env
  | f :: l, env, k => cond (znz f.2) (efrc (escl f (-1)) (fun n => anar n f.2 env (fun env' => aprp l env' k))) false
theorem aprp_ok {P : (Nat → Int) → Prop} (hP : ∃ ρ, P ρ) : ∀ (l : List ae) (env : aenv) (k : aenv → Bool), aprp l env k = true → (∀ ρ, P ρ → envR env ρ ∧ fxR l ρ) → ∃ env', k env' = true ∧ ∀ ρ, P ρ → envR env' ρ
  | [], env, k, h, hR => ⟨env, h, fun ρ p => (hR ρ p).1⟩
  | f :: l, env, k, h, hR => by
    unfold aprp at h
    obtain ⟨h1, h2⟩ := xcnb h
    rw [efrc_eq] at h2
    obtain ⟨env', h3, h4⟩ := anar_ok hP _ _ _ h2 (fun ρ p => ⟨(hR ρ p).1, by rw [escl_ev]; have := (hR ρ p).2 f List.mem_cons_self; omega⟩) (znz_ok h1)
    exact aprp_ok hP l env' k h3 (fun ρ p => ⟨h4 ρ p, fun g hg => (hR ρ p).2 g (List.mem_cons_of_mem _ hg)⟩)
/-- symbols that are known go into the constant -/
noncomputable def enrm (env : aenv) : List (Nat × Int) → Int → List (Nat × Int) → (Int → List (Nat × Int) → ae) → ae
  | [], c, acc, k => k c acc
  | q :: l, c, acc, k => match xg env q.1 with
    | some (some i) => cond (zeq i.1 i.2) (enrm env l (Int.add c (Int.mul q.2 i.1)) acc k) (enrm env l c acc (fun c' a => k c' (q :: a)))
    | _ => enrm env l c acc (fun c' a => k c' (q :: a))
noncomputable def enor (env : aenv) (e : ae) : ae := match e.2 with
  | [] => e
  | _ => enrm env e.2 e.1 [] (fun c l => (c, l))
theorem enrm_ok {env : aenv} {ρ : Nat → Int} (hE : envR env ρ) : ∀ (l : List (Nat × Int)) (c : Int) (acc : List (Nat × Int)) (k : Int → List (Nat × Int) → ae), ∃ (c' : Int) (m : List (Nat × Int)), enrm env l c acc k = k c' m ∧ c' + evl ρ m = c + evl ρ l + evl ρ acc
  | [], c, acc, k => ⟨c, acc, rfl, by show c + evl ρ acc = c + 0 + evl ρ acc; omega⟩
  | q :: l, c, acc, k => by
    have keep : ∃ (c' : Int) (m : List (Nat × Int)), enrm env l c acc (fun c' a => k c' (q :: a)) = k c' m ∧ c' + evl ρ m = c + evl ρ (q :: l) + evl ρ acc := by
      obtain ⟨c', m, h1, h2⟩ := enrm_ok hE l c acc (fun c' a => k c' (q :: a))
      refine ⟨c', q :: m, h1, ?_⟩
      show c' + (q.2 * ρ q.1 + evl ρ m) = c + (q.2 * ρ q.1 + evl ρ l) + evl ρ acc
      omega
    unfold enrm
    split
    · rename_i i hg
      cases hz : zeq i.1 i.2 with
      | false => exact keep
      | true =>
        simp only [cond_true]
        obtain ⟨c', m, h1, h2⟩ := enrm_ok hE l (Int.add c (Int.mul q.2 i.1)) acc k
        refine ⟨c', m, h1, ?_⟩
        obtain ⟨b1, b2⟩ := hE q.1 i hg
        have e := zeq_iff.mp hz
        have e2 : ρ q.1 = i.1 := by omega
        show c' + evl ρ m = c + (q.2 * ρ q.1 + evl ρ l) + evl ρ acc
        rw [e2]
        have e3 : Int.add c (Int.mul q.2 i.1) = c + q.2 * i.1 := rfl
        rw [e3] at h2
        omega
    · exact keep
theorem enor_ok {env : aenv} {ρ : Nat → Int} (hE : envR env ρ) (e : ae) : ev ρ (enor env e) = ev ρ e := by
  unfold enor
  split
  · rfl
  · obtain ⟨c', m, h1, h2⟩ := enrm_ok hE e.2 e.1 [] (fun c l => (c, l))
    rw [h1]
    show c' + evl ρ m = e.1 + evl ρ e.2
    rw [h2]
    show e.1 + evl ρ e.2 + 0 = _
    omega
/-- e is at most 0: true where that can't be -/
noncomputable def aas (env : aenv) (fx : List ae) (e : ae) (k : aenv → List ae → Bool) : Bool :=
  match eu env e with
  | none => false
  | some u => cond (zle u 0) (k env fx)
    (efrc (escl e (-1)) (fun n => efrc (eadc n 1) (fun n1 => cond (elef env fx 2 n1) true
      (cond (znz e.2) (anar n e.2 env (fun env' => match (enor env' e).2 with
        | [] => k env' fx
        | [_] => k env' fx
        | _ => k env' (e :: fx))) false))))
theorem aas_ok {P : (Nat → Int) → Prop} (hP : ∃ ρ, P ρ) {env : aenv} {fx : List ae} {e : ae} {k : aenv → List ae → Bool} (h : aas env fx e k = true) (hR : ∀ ρ, P ρ → envR env ρ ∧ fxR fx ρ ∧ ev ρ e ≤ 0) :
    ∃ env' fx', k env' fx' = true ∧ ∀ ρ, P ρ → envR env' ρ ∧ fxR fx' ρ := by
  unfold aas at h
  cases hu : eu env e with
  | none => rw [hu] at h; cases h
  | some u =>
    rw [hu] at h
    dsimp only at h
    cases hz : zle u 0 with
    | true => rw [hz] at h; exact ⟨env, fx, h, fun ρ p => ⟨(hR ρ p).1, (hR ρ p).2.1⟩⟩
    | false =>
      rw [hz] at h
      simp only [cond_false] at h
      rw [efrc_eq, efrc_eq] at h
      cases hf : elef env fx 2 (eadc (escl e (-1)) 1) with
      | true =>
        obtain ⟨ρ, p⟩ := hP
        have := elef_ok (hR ρ p).1 (hR ρ p).2.1 2 _ hf
        rw [eadc_ev, escl_ev] at this
        have := (hR ρ p).2.2
        omega
      | false =>
        rw [hf] at h
        simp only [cond_false] at h
        obtain ⟨h1, h2⟩ := xcnb h
        obtain ⟨env', h3, h4⟩ := anar_ok hP _ _ _ h2 (fun ρ p => ⟨(hR ρ p).1, by rw [escl_ev]; have := (hR ρ p).2.2; omega⟩) (znz_ok h1)
        split at h3
        · exact ⟨env', fx, h3, fun ρ p => ⟨h4 ρ p, (hR ρ p).2.1⟩⟩
        · exact ⟨env', fx, h3, fun ρ p => ⟨h4 ρ p, (hR ρ p).2.1⟩⟩
        · refine ⟨env', e :: fx, h3, fun ρ p => ⟨h4 ρ p, fun f hf => ?_⟩⟩
          rcases List.mem_cons.mp hf with z | hf
          · rw [z]; exact (hR ρ p).2.2
          · exact (hR ρ p).2.1 f hf
