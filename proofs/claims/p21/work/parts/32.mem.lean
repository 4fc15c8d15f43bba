section
/-! Values, places, what is known of them -/
abbrev av : Type := Nat × Nat × ae
abbrev am : Type := Nat × ae × ae × av
abbrev gho : Type := Nat × Nat × Nat × ae
abbrev acol : Type := Int × Int × Int × Int × Int
/-- kind, length, least and greatest cell, columns, tags and types of the places -/
abbrev aty : Type := Nat × Nat × (Int × Int) × List (Int × Int × List acol) × List (Nat × Nat)
def aag (ne : Nat) (ρ ρ' : Nat → Int) : Prop := ∀ s : Nat, s < ne → ρ' s = ρ s
/-- for all that agree below ne -/
def aC (ne : Nat) (ρ : Nat → Int) (X : (Nat → Int) → Prop) : Prop := ∀ ρ' : Nat → Int, aag ne ρ ρ' → X ρ'
theorem aag.rf (ne : Nat) (ρ : Nat → Int) : aag ne ρ ρ := fun _ _ => rfl
theorem aag.tr {n m : Nat} {a b c : Nat → Int} (hnm : n ≤ m) (h1 : aag n a b) (h2 : aag m b c) : aag n a c := fun s hs => (h2 s (Nat.lt_of_lt_of_le hs hnm)).trans (h1 s hs)
theorem aC.self {ne : Nat} {ρ : Nat → Int} {X : (Nat → Int) → Prop} (h : aC ne ρ X) : X ρ := h ρ (aag.rf ne ρ)
theorem aC.mono {ne ne' : Nat} {ρ ρ' : Nat → Int} {X : (Nat → Int) → Prop} (h : aC ne ρ X) (hn : ne ≤ ne') (ha : aag ne ρ ρ') : aC ne' ρ' X := fun τ ht => h τ (aag.tr hn ha ht)
theorem aC.imp {ne : Nat} {ρ : Nat → Int} {X Y : (Nat → Int) → Prop} (h : aC ne ρ X) (k : ∀ ρ', X ρ' → Y ρ') : aC ne ρ Y := fun τ ht => k τ (h τ ht)
theorem aC.and {ne : Nat} {ρ : Nat → Int} {X Y : (Nat → Int) → Prop} (h : aC ne ρ X) (k : aC ne ρ Y) : aC ne ρ (fun r => X r ∧ Y r) := fun τ ht => ⟨h τ ht, k τ ht⟩
def aup (ρ : Nat → Int) (s : Nat) (z : Int) : Nat → Int := fun t => if t = s then z else ρ t
theorem aup_ag (ρ : Nat → Int) (s : Nat) (z : Int) : aag s ρ (aup ρ s z) := fun t ht => by unfold aup; rw [if_neg (by omega)]
theorem aup_self (ρ : Nat → Int) (s : Nat) (z : Int) : aup ρ s z s = z := by unfold aup; rw [if_pos rfl]
/-- a new symbol -/
noncomputable def afrs (lo hi : Int) (env : aenv) (ne : Nat) (k : aenv → Nat → Bool) : Bool := xsK env ne (some (lo, hi)) (fun env' => xfrc (ne + 1) (fun n => k env' n))
theorem afrs_eq (lo hi : Int) (env : aenv) (ne : Nat) (k : aenv → Nat → Bool) : afrs lo hi env ne k = k (xw env ne (some (lo, hi))) (ne + 1) := by unfold afrs; rw [xsK_eq, xfrc_eq]
theorem afrs_ok {lo hi z : Int} {env : aenv} {ne : Nat} {ρ : Nat → Int} (h : aC ne ρ (envR env)) (h1 : lo ≤ z) (h2 : z ≤ hi) : aC (ne + 1) (aup ρ ne z) (envR (xw env ne (some (lo, hi)))) := by
  intro τ ht
  have e : τ ne = z := by rw [ht ne (by omega), aup_self]
  exact envR_set (h τ (aag.tr (by omega) (aup_ag ρ ne z) ht)) (by rw [e]; exact h1) (by rw [e]; exact h2)
theorem afrs_ev {z : Int} {ne : Nat} {ρ : Nat → Int} : aC (ne + 1) (aup ρ ne z) (fun τ => ev τ (esym ne) = z) := fun τ ht => by show ev τ (esym ne) = z; rw [esym_ev, ht ne (by omega), aup_self]
section World
variable (h0 : xheap) (tyt : Lean.RArray (Nat × Nat)) (typs : Lean.RArray (Nat × aty))
def agt {α : Type} : List α → Nat → Option α
  | [], _ => none
  | q :: _, 0 => some q
  | _ :: l, n + 1 => agt l n
def apl (T : aty) (j : Nat) : Option (Nat × Nat) := cond (Nat.blt T.1 13) (agt T.2.2.2.2 j) (agt T.2.2.2.2 0)
/-- the types are right -/
def aWd : Prop := ∀ (k t : Nat), xg tyt k = some t → ∃ (q : xcell) (T : aty), xg h0 k = some q ∧ xg typs t = some T ∧ T.1 = q.1 ∧ T.2.1 = q.2.1 ∧ q.2.1 < 2147483648 ∧ T.2.2.1.1 ≤ (k : Int) ∧ (k : Int) ≤ T.2.2.1.2 ∧
  ∀ j : Nat, j < q.2.1 → ∃ (w : xv) (u : Nat × Nat), xg q.2.2 j = some w ∧ apl T j = some u ∧ w.1 = u.1 ∧ (u.1 = 0 ∨ u.1 = 2 ∨ (u.1 = 4 ∧ xg tyt w.2 = some u.2))
/-- what lies at a place -/
def cat (g : cg) (k j : Nat) (v : cv) : Prop := ∃ (q : xcell) (w : xv), xg h0 k = some q ∧ xg q.2.2 j = some w ∧ v = cval w (g k j)
theorem cat_inj {g : cg} {k j : Nat} {v v' : cv} (h : cat h0 g k j v) (h' : cat h0 g k j v') : v = v' := by
  obtain ⟨q, w, a1, a2, a3⟩ := h
  obtain ⟨q', w', b1, b2, b3⟩ := h'
  have e1 : q = q' := Option.some.inj (a1.symm.trans b1)
  subst e1
  have e2 : w = w' := Option.some.inj (a2.symm.trans b2)
  subst e2
  rw [a3, b3]
/-- the columns hold -/
def acv (c : acol) (j : Nat) : Prop := c.1 ≤ (j : Int) ∧ (j : Int) ≤ c.2.1 ∧ ((j : Int) - c.1) % c.2.2.1 = 0
def aInv (g : cg) : Prop := ∀ (k t : Nat) (T : aty), xg tyt k = some t → xg typs t = some T → (∀ b ∈ T.2.2.2.1, ∀ c ∈ b.2.2, ∀ j : Nat, b.1 ≤ (j : Int) → (j : Int) ≤ b.2.1 → acv c j → c.2.2.2.1 ≤ g k j ∧ g k j ≤ c.2.2.2.2) ∧ ∀ (j : Nat) (u : Nat × Nat), j < T.2.1 → apl T j = some u → (u.1 = 0 → cI (g k j)) ∧ (u.1 = 2 → cL (g k j))
/-- a value -/
def avR (ρ : Nat → Int) (a : av) (v : cv) : Prop :=
  match a.1 with
  | 0 => v = (0, ev ρ a.2.2) ∧ cI (ev ρ a.2.2)
  | 2 => v = (2, ev ρ a.2.2) ∧ cL (ev ρ a.2.2)
  | 4 => ∃ k : Nat, v = (4, (k : Int)) ∧ ev ρ a.2.2 = (k : Int) ∧ xg tyt k = some a.2.1
  | 5 => v = (5, 0)
  | 6 => v = (6, (a.2.1 : Int))
  | 9 => v = (0, csgn (ev ρ a.2.2))
  | 10 => v = (10, 0)
  | _ => False
def amR (ρ : Nat → Int) (g : cg) (m : am) : Prop := ∃ (k j : Nat) (v : cv), ev ρ m.2.1 = (k : Int) ∧ ev ρ m.2.2.1 = (j : Int) ∧ xg tyt k = some m.1 ∧ cat h0 g k j v ∧ avR tyt ρ m.2.2.2 v
def amsR (ρ : Nat → Int) (g : cg) (mem : List am) : Prop := ∀ m ∈ mem, amR h0 tyt ρ g m
end World
/-! equal, surely different -/
def leqb : List (Nat × Int) → List (Nat × Int) → Bool
  | [], [] => true
  | q :: l, r :: m => cond (Nat.beq q.1 r.1) (cond (zeq q.2 r.2) (leqb l m) false) false
  | [], _ :: _ => false
  | _ :: _, [] => false
theorem leqb_ok : ∀ {a b : List (Nat × Int)}, leqb a b = true → a = b
  | [], [], _ => rfl
  | (s, c) :: l, (t, d) :: m, h => by
    obtain ⟨h1, h2⟩ := xcnb (show cond (Nat.beq s t) (cond (zeq c d) (leqb l m) false) false = true from h)
    obtain ⟨h3, h4⟩ := xcnb h2
    rw [xeqb h1, zeq_iff.mp h3, leqb_ok h4]
  | [], _ :: _, h => by cases h
  | _ :: _, [], h => by cases h
def eeqb (a b : ae) : Bool := cond (zeq a.1 b.1) (leqb a.2 b.2) false
theorem eeqb_ok {a b : ae} (h : eeqb a b = true) : a = b := by
  obtain ⟨h1, h2⟩ := xcnb h
  obtain ⟨x, y⟩ := a
  obtain ⟨z, w⟩ := b
  have e1 : x = z := zeq_iff.mp h1
  have e2 : y = w := leqb_ok h2
  rw [e1, e2]
/-- the same value, whatever the symbols -/
noncomputable def eeq (env : aenv) (a b : ae) : Bool := cond (eeqb a b) true (match (enor env (eadd a b (-1))).2 with
  | [] => zeq (enor env (eadd a b (-1))).1 0
  | _ => false)
theorem eeq_ok {env : aenv} {ρ : Nat → Int} (hE : envR env ρ) {a b : ae} (h : eeq env a b = true) : ev ρ a = ev ρ b := by
  unfold eeq at h
  rcases xcnt h with h | h
  · rw [eeqb_ok h]
  · split at h
    · rename_i hn
      have e1 := enor_ok hE (eadd a b (-1))
      rw [eadd_ev] at e1
      have e2 : ev ρ (enor env (eadd a b (-1))) = (enor env (eadd a b (-1))).1 := by unfold ev; rw [hn]; show _ + 0 = _; omega
      have e3 := zeq_iff.mp h
      omega
    · cases h
def zgcd (l : List (Nat × Int)) : Nat := match l with
  | [] => 0
  | q :: l => Nat.gcd q.2.natAbs (zgcd l)
theorem zgcd_ok (ρ : Nat → Int) : ∀ l : List (Nat × Int), ((zgcd l : Nat) : Int) ∣ evl ρ l
  | [] => Int.dvd_zero _
  | q :: l => by
    have h1 : ((Nat.gcd q.2.natAbs (zgcd l) : Nat) : Int) ∣ q.2 := Int.dvd_natAbs.mp (Int.natCast_dvd_natCast.mpr (Nat.gcd_dvd_left _ _))
    have h2 : ((Nat.gcd q.2.natAbs (zgcd l) : Nat) : Int) ∣ evl ρ l := Int.dvd_trans (Int.natCast_dvd_natCast.mpr (Nat.gcd_dvd_right _ _)) (zgcd_ok ρ l)
    exact Int.dvd_add (Int.dvd_trans h1 (Int.dvd_mul_right _ _)) h2
noncomputable def enei (env : aenv) (d : ae) : Bool := match d.2 with
  | [] => !(zeq d.1 0)
  | _ => cond (match eu env d with
      | none => false
      | some u => zlt u 0) true (cond (efrc (escl d (-1)) (fun n => match eu env n with
        | none => false
        | some u => zlt u 0)) true (!(zeq (Int.emod d.1 (zgcd d.2 : Int)) 0)))
noncomputable def ene (env : aenv) (a b : ae) : Bool := efrc (enor env (eadd a b (-1))) (fun d => enei env d)
theorem ene_ok {env : aenv} {ρ : Nat → Int} (hE : envR env ρ) {a b : ae} (h : ene env a b = true) : ev ρ a ≠ ev ρ b := by
  unfold ene at h
  rw [efrc_eq] at h
  have e1 := enor_ok hE (eadd a b (-1))
  rw [eadd_ev] at e1
  generalize enor env (eadd a b (-1)) = d at h e1
  have key : ev ρ d ≠ 0 := by
    unfold enei at h
    split at h
    · rename_i hn
      intro z
      have e2 : ev ρ d = d.1 := by unfold ev; rw [hn]; show _ + 0 = _; omega
      have : d.1 = 0 := by omega
      rw [zeq_iff.mpr this] at h
      cases h
    · rcases xcnt h with h | h
      · cases hu : eu env d with
        | none => rw [hu] at h; cases h
        | some u =>
          rw [hu] at h
          have := eu_ok hE hu
          have := zlt_iff.mp h
          omega
      · rcases xcnt h with h | h
        · rw [efrc_eq] at h
          cases hu : eu env (escl d (-1)) with
          | none => rw [hu] at h; cases h
          | some u =>
            rw [hu] at h
            have := eu_ok hE hu
            rw [escl_ev] at this
            have := zlt_iff.mp h
            omega
        · intro z
          have hd := zgcd_ok ρ d.2
          have h3 : ((zgcd d.2 : Nat) : Int) ∣ d.1 := by
            have e2 : d.1 = -(evl ρ d.2) := by have : ev ρ d = d.1 + evl ρ d.2 := rfl; omega
            rw [e2]
            exact Int.dvd_neg.mpr hd
          have h4 : Int.emod d.1 (zgcd d.2 : Int) = 0 := Int.emod_eq_zero_of_dvd h3
          rw [zeq_iff.mpr h4] at h
          cases h
  omega
/-! places -/
/-- where t, c, i is known -/
noncomputable def amg (env : aenv) (t : Nat) (c i : ae) : List am → Option av
  | [] => none
  | m :: l => cond (Nat.beq m.1 t) (cond (eeq env m.2.1 c) (cond (eeq env m.2.2.1 i) (some m.2.2.2) (amg env t c i l)) (amg env t c i l)) (amg env t c i l)
theorem amg_ok {h0 : xheap} {tyt : Lean.RArray (Nat × Nat)} {env : aenv} {ρ : Nat → Int} {g : cg} (hE : envR env ρ) {t : Nat} {c i : ae} : ∀ {mem : List am} {v : av}, amsR h0 tyt ρ g mem → amg env t c i mem = some v → ∃ (k j : Nat) (w : cv), ev ρ c = (k : Int) ∧ ev ρ i = (j : Int) ∧ cat h0 g k j w ∧ avR tyt ρ v w
  | [], _, _, h => by cases h
  | m :: l, v, hm, h => by
    have hl : amsR h0 tyt ρ g l := fun x hx => hm x (List.mem_cons_of_mem _ hx)
    have h : cond (Nat.beq m.1 t) (cond (eeq env m.2.1 c) (cond (eeq env m.2.2.1 i) (some m.2.2.2) (amg env t c i l)) (amg env t c i l)) (amg env t c i l) = some v := h
    cases h1 : Nat.beq m.1 t with
    | false => rw [h1] at h; exact amg_ok hE hl h
    | true =>
      rw [h1] at h
      cases h2 : eeq env m.2.1 c with
      | false => rw [h2] at h; exact amg_ok hE hl h
      | true =>
        rw [h2] at h
        cases h3 : eeq env m.2.2.1 i with
        | false => rw [h3] at h; exact amg_ok hE hl h
        | true =>
          rw [h3] at h
          have e : m.2.2.2 = v := Option.some.inj h
          obtain ⟨k, j, w, a1, a2, a3, a4, a5⟩ := hm m List.mem_cons_self
          exact ⟨k, j, w, by rw [← eeq_ok hE h2]; exact a1, by rw [← eeq_ok hE h3]; exact a2, a4, by rw [← e]; exact a5⟩
/-- what a store at t, c, i leaves -/
noncomputable def amk (env : aenv) (t : Nat) (c i : ae) : List am → (List am → Bool) → Bool
  | [], k => k []
  | m :: l, k => cond (cond (Nat.beq m.1 t) (cond (Nat.beq m.2.2.2.1 4) true (cond (ene env m.2.2.1 i) true (ene env m.2.1 c))) true) (amk env t c i l (fun r => k (m :: r))) (amk env t c i l k)
theorem amk_ok (env : aenv) (t : Nat) (c i : ae) : ∀ (mem : List am) (k : List am → Bool), ∃ r, amk env t c i mem k = k r ∧ ∀ m ∈ r, m ∈ mem ∧ (cond (Nat.beq m.1 t) (cond (Nat.beq m.2.2.2.1 4) true (cond (ene env m.2.2.1 i) true (ene env m.2.1 c))) true) = true
  | [], k => ⟨[], rfl, fun _ h => absurd h List.not_mem_nil⟩
  | m :: l, k => by
    unfold amk
    cases hb : (cond (Nat.beq m.1 t) (cond (Nat.beq m.2.2.2.1 4) true (cond (ene env m.2.2.1 i) true (ene env m.2.1 c))) true) with
    | true =>
      obtain ⟨r, h1, h2⟩ := amk_ok env t c i l (fun r => k (m :: r))
      refine ⟨m :: r, h1, fun x hx => ?_⟩
      rcases List.mem_cons.mp hx with e | hx
      · rw [e]; exact ⟨List.mem_cons_self, hb⟩
      · exact ⟨List.mem_cons_of_mem _ (h2 x hx).1, (h2 x hx).2⟩
    | false =>
      obtain ⟨r, h1, h2⟩ := amk_ok env t c i l k
      exact ⟨r, h1, fun x hx => ⟨List.mem_cons_of_mem _ (h2 x hx).1, (h2 x hx).2⟩⟩
theorem cval_ref {w : xv} {z z' : Int} (h : (cval w z).1 = 4) : cval w z' = cval w z := by
  obtain ⟨t, n⟩ := w
  match t, h with
  | 0, h => cases h
  | 1, _ => rfl
  | 2, h => cases h
  | _ + 3, _ => rfl
/-- a place that is kept behind a store of a number -/
theorem amR_keep {h0 : xheap} {tyt : Lean.RArray (Nat × Nat)} {env : aenv} {ρ : Nat → Int} {g : cg} (hE : envR env ρ) {t k j : Nat} {c i : ae} {z : Int} (hc : ev ρ c = (k : Int)) (hi : ev ρ i = (j : Int)) (ht : xg tyt k = some t) {m : am} (hm : amR h0 tyt ρ g m)
    (hk : (cond (Nat.beq m.1 t) (cond (Nat.beq m.2.2.2.1 4) true (cond (ene env m.2.2.1 i) true (ene env m.2.1 c))) true) = true) : amR h0 tyt ρ (cup g k j z) m := by
  obtain ⟨k', j', v, a1, a2, a3, ⟨q, w, b1, b2, b3⟩, a5⟩ := hm
  by_cases hs : k' = k ∧ j' = j
  · obtain ⟨e1, e2⟩ := hs
    subst e1; subst e2
    have e3 : m.1 = t := Option.some.inj (a3.symm.trans ht)
    rw [xnb1 e3] at hk
    simp only [cond_true] at hk
    rcases xcnt hk with hk | hk
    · have h4 : m.2.2.2.1 = 4 := xeqb hk
      have hv : v.1 = 4 := by
        unfold avR at a5
        rw [h4] at a5
        obtain ⟨kk, e, -⟩ := a5
        rw [e]
      rw [b3] at hv
      refine ⟨k', j', v, a1, a2, a3, ⟨q, w, b1, b2, ?_⟩, a5⟩
      rw [b3]
      exact (cval_ref hv).symm
    · rcases xcnt hk with hk | hk
      · exact absurd (a2.trans hi.symm) (ene_ok hE hk)
      · exact absurd (a1.trans hc.symm) (ene_ok hE hk)
  · refine ⟨k', j', v, a1, a2, a3, ⟨q, w, b1, b2, ?_⟩, a5⟩
    unfold cup
    rw [if_neg hs]
    exact b3
end
section
/-! Loads -/
def zdvd (s : Int) : List (Nat × Int) → Bool
  | [] => true
  | q :: l => cond (zeq (Int.emod q.2 s) 0) (zdvd s l) false
theorem zdvd_ok {s : Int} (ρ : Nat → Int) : ∀ {l : List (Nat × Int)}, zdvd s l = true → s ∣ evl ρ l
  | [], _ => Int.dvd_zero _
  | q :: l, h => by
    obtain ⟨h1, h2⟩ := xcnb (show cond (zeq (Int.emod q.2 s) 0) (zdvd s l) false = true from h)
    have h3 : s ∣ q.2 := Int.dvd_of_emod_eq_zero (zeq_iff.mp h1)
    exact Int.dvd_add (Int.dvd_trans h3 (Int.dvd_mul_right _ _)) (zdvd_ok ρ h2)
/-- an index between lo and hi, n: does it lie in the column -/
def acin (lo hi : Int) (n : ae) (c : acol) : Bool := cond (zle c.1 lo) (cond (zle hi c.2.1) (cond (zeq c.2.2.1 1) true (cond (zeq (Int.emod (Int.add n.1 (Int.neg c.1)) c.2.2.1) 0) (zdvd c.2.2.1 n.2) false)) false) false
theorem acin_ok {lo hi : Int} {n : ae} {c : acol} {ρ : Nat → Int} {j : Nat} (h : acin lo hi n c = true) (h1 : ev ρ n = (j : Int)) (h2 : lo ≤ (j : Int)) (h3 : (j : Int) ≤ hi) : acv c j := by
  obtain ⟨a1, a2⟩ := xcnb h
  obtain ⟨a3, a4⟩ := xcnb a2
  have a1 := zle_iff.mp a1
  have a3 := zle_iff.mp a3
  refine ⟨by omega, by omega, ?_⟩
  rcases xcnt a4 with a | a
  · rw [zeq_iff.mp a]; exact Int.emod_one _
  · obtain ⟨b1, b2⟩ := xcnb a
    have b3 : c.2.2.1 ∣ (n.1 + -c.1) := Int.dvd_of_emod_eq_zero (zeq_iff.mp b1)
    have b4 := zdvd_ok ρ b2
    apply Int.emod_eq_zero_of_dvd
    have e : (j : Int) - c.1 = (n.1 + -c.1) + evl ρ n.2 := by rw [← h1]; show n.1 + evl ρ n.2 - c.1 = _; omega
    rw [e]
    exact Int.dvd_add b3 b4
def acb1 (lo hi : Int) (n : ae) : List acol → Int × Int → Int × Int
  | [], b => b
  | c :: l, b => acb1 lo hi n l (cond (acin lo hi n c) (zmx b.1 c.2.2.2.1, zmn b.2 c.2.2.2.2) b)
def acbs (lo hi : Int) (n : ae) : List (Int × Int × List acol) → Int × Int → Int × Int
  | [], b => b
  | q :: l, b => cond (cond (zle q.1 lo) (zle hi q.2.1) false) (acbs lo hi n l (acb1 lo hi n q.2.2 b)) (acbs lo hi n l b)
theorem acb1_ok {lo hi : Int} {n : ae} {ρ : Nat → Int} {j : Nat} {z : Int} (h1 : ev ρ n = (j : Int)) (h2 : lo ≤ (j : Int)) (h3 : (j : Int) ≤ hi) : ∀ (l : List acol) (b : Int × Int), (∀ c ∈ l, acv c j → c.2.2.2.1 ≤ z ∧ z ≤ c.2.2.2.2) → b.1 ≤ z → z ≤ b.2 → (acb1 lo hi n l b).1 ≤ z ∧ z ≤ (acb1 lo hi n l b).2
  | [], b, _, a1, a2 => ⟨a1, a2⟩
  | c :: l, b, hc, a1, a2 => by
    show (acb1 lo hi n l (cond (acin lo hi n c) (zmx b.1 c.2.2.2.1, zmn b.2 c.2.2.2.2) b)).1 ≤ z ∧ z ≤ (acb1 lo hi n l (cond (acin lo hi n c) (zmx b.1 c.2.2.2.1, zmn b.2 c.2.2.2.2) b)).2
    have hl : ∀ c ∈ l, acv c j → c.2.2.2.1 ≤ z ∧ z ≤ c.2.2.2.2 := fun x hx => hc x (List.mem_cons_of_mem _ hx)
    cases h : acin lo hi n c with
    | false => exact acb1_ok h1 h2 h3 l b hl a1 a2
    | true =>
      obtain ⟨b1, b2⟩ := hc c List.mem_cons_self (acin_ok h h1 h2 h3)
      exact acb1_ok h1 h2 h3 l _ hl (zmx_of a1 b1) (zmn_of a2 b2)
theorem acbs_ok {lo hi : Int} {n : ae} {ρ : Nat → Int} {j : Nat} {z : Int} (h1 : ev ρ n = (j : Int)) (h2 : lo ≤ (j : Int)) (h3 : (j : Int) ≤ hi) : ∀ (l : List (Int × Int × List acol)) (b : Int × Int), (∀ q ∈ l, ∀ c ∈ q.2.2, q.1 ≤ (j : Int) → (j : Int) ≤ q.2.1 → acv c j → c.2.2.2.1 ≤ z ∧ z ≤ c.2.2.2.2) → b.1 ≤ z → z ≤ b.2 → (acbs lo hi n l b).1 ≤ z ∧ z ≤ (acbs lo hi n l b).2
  | [], b, _, a1, a2 => ⟨a1, a2⟩
  | q :: l, b, hc, a1, a2 => by
    have hl : ∀ q ∈ l, ∀ c ∈ q.2.2, q.1 ≤ (j : Int) → (j : Int) ≤ q.2.1 → acv c j → c.2.2.2.1 ≤ z ∧ z ≤ c.2.2.2.2 := fun x hx => hc x (List.mem_cons_of_mem _ hx)
    unfold acbs
    cases h : cond (zle q.1 lo) (zle hi q.2.1) false with
    | false => exact acbs_ok h1 h2 h3 l b hl a1 a2
    | true =>
      obtain ⟨b1, b2⟩ := xcnb h
      have b1 := zle_iff.mp b1
      have b2 := zle_iff.mp b2
      simp only [cond_true]
      obtain ⟨c1, c2⟩ := acb1_ok h1 h2 h3 q.2.2 b (fun c hc' => hc q List.mem_cons_self c hc' (by omega) (by omega)) a1 a2
      exact acbs_ok h1 h2 h3 l _ hl c1 c2
section Load
variable (h0 : xheap) (tyt : Lean.RArray (Nat × Nat)) (typs : Lean.RArray (Nat × aty)) (GS : gho → (Nat → Int) → cg → Prop) (HK : aenv → List ae → List am → List gho → Nat → ae → ae → Int × Int → Int × Int)
def ghR (gh : List gho) (ρ : Nat → Int) (g : cg) : Prop := ∀ x ∈ gh, GS x ρ g
/-- all that is known -/
def coR (env : aenv) (fx : List ae) (mem : List am) (gh : List gho) (g : cg) (ρ : Nat → Int) : Prop := envR env ρ ∧ fxR fx ρ ∧ amsR h0 tyt ρ g mem ∧ ghR GS gh ρ g
def aHK : Prop := ∀ (env : aenv) (fx : List ae) (mem : List am) (gh : List gho) (g : cg) (ρ : Nat → Int) (t : Nat) (c i : ae) (b : Int × Int) (k j : Nat), coR h0 tyt GS env fx mem gh g ρ → ev ρ c = (k : Int) → ev ρ i = (j : Int) → xg tyt k = some t → b.1 ≤ g k j → g k j ≤ b.2 → (HK env fx mem gh t c i b).1 ≤ g k j ∧ g k j ≤ (HK env fx mem gh t c i b).2
/-- a number that isn't known yet -/
noncomputable def anum (T : aty) (tag t : Nat) (c i : ae) (full : Int × Int) (mem : List am) (env : aenv) (fx : List ae) (gh : List gho) (ne : Nat) (k : av → List am → aenv → Nat → Bool) : Bool :=
  match eu env i with
  | none => false
  | some hi => efrc (escl i (-1)) (fun n => match eu env n with
    | none => false
    | some lo => zfrc (Int.neg lo) (fun lo => zfrc (HK env fx mem gh t c i (acbs lo hi i T.2.2.2.1 full)).1 (fun a => zfrc (HK env fx mem gh t c i (acbs lo hi i T.2.2.2.1 full)).2 (fun b =>
      afrs a b env ne (fun env' ne' => k (tag, 0, esym ne) ((t, c, i, (tag, 0, esym ne)) :: mem) env' ne')))))
noncomputable def aload (t : Nat) (c0 i0 : ae) (mem : List am) (env : aenv) (fx : List ae) (gh : List gho) (ne : Nat) (k : av → List am → aenv → Nat → Bool) : Bool :=
  efrc (enor env c0) (fun c => efrc (enor env i0) (fun i => match amg env t c i mem with
    | some v => k v mem env ne
    | none => match xg typs t with
      | none => false
      | some T => cond (cond (Nat.blt T.1 13) (match i.2 with
          | [] => true
          | _ => false) true)
        (match apl T i.1.toNat with
          | none => false
          | some u => match u.1 with
            | 0 => anum HK T 0 t c i (-2147483648, 2147483647) mem env fx gh ne k
            | 2 => anum HK T 2 t c i (-9223372036854775808, 9223372036854775807) mem env fx gh ne k
            | 4 => match c.2, i.2 with
              | [], [] => (match xg h0 c.1.toNat with
                | none => false
                | some q => match xg q.2.2 i.1.toNat with
                  | none => false
                  | some w => xfrc w.2 (fun w2 => k (4, u.2, ((w2 : Int), [])) mem env ne))
              | _, _ => (match xg typs u.2 with
                | none => false
                | some T2 => zfrc T2.2.2.1.1 (fun a => zfrc T2.2.2.1.2 (fun b => xfrc u.2 (fun t2 => afrs a b env ne (fun env' ne' => k (4, t2, esym ne) ((t, c, i, (4, t2, esym ne)) :: mem) env' ne')))))
            | _ => false) false))
variable {h0 tyt typs GS HK}
theorem amsR_cons {ρ : Nat → Int} {g : cg} {m : am} {mem : List am} (h1 : amR h0 tyt ρ g m) (h2 : amsR h0 tyt ρ g mem) : amsR h0 tyt ρ g (m :: mem) := fun x hx => by
  rcases List.mem_cons.mp hx with e | hx
  · rw [e]; exact h1
  · exact h2 x hx
theorem anum_ok (hHK : aHK h0 tyt GS HK) {g : cg} (hI : aInv tyt typs g) {T : aty} {tag t : Nat} {c i : ae} {full : Int × Int} {mem : List am} {env : aenv} {fx : List ae} {gh : List gho} {ne : Nat} {k : av → List am → aenv → Nat → Bool} {ρ : Nat → Int} {kc j : Nat}
    (hC : aC ne ρ (coR h0 tyt GS env fx mem gh g)) (hp : aC ne ρ (fun τ => ev τ c = (kc : Int) ∧ ev τ i = (j : Int))) (ht : xg tyt kc = some t) (hT : xg typs t = some T) {v0 : cv} (hcat : cat h0 g kc j v0) (hf : full.1 ≤ g kc j ∧ g kc j ≤ full.2) (hv : ∀ τ : Nat → Int, ∀ e : ae, ev τ e = g kc j → avR tyt τ (tag, 0, e) v0)
    (h : anum HK T tag t c i full mem env fx gh ne k = true) : ∃ v mem' env' ne' ρ', k v mem' env' ne' = true ∧ ne ≤ ne' ∧ aag ne ρ ρ' ∧ aC ne' ρ' (coR h0 tyt GS env' fx mem' gh g) ∧ aC ne' ρ' (fun τ => avR tyt τ v v0) := by
  unfold anum at h
  cases hu : eu env i with
  | none => rw [hu] at h; cases h
  | some hi =>
    rw [hu] at h
    dsimp only at h
    rw [efrc_eq] at h
    cases hl : eu env (escl i (-1)) with
    | none => rw [hl] at h; cases h
    | some lo =>
      rw [hl] at h
      dsimp only at h
      rw [zfrc_eq, zfrc_eq, zfrc_eq, afrs_eq] at h
      have hR := hC.self
      have hpp := hp.self
      have b1 := eu_ok hR.1 hu
      have b2 := eu_ok hR.1 hl
      rw [escl_ev] at b2
      have hbd := acbs_ok (lo := Int.neg lo) (hi := hi) (n := i) (ρ := ρ) (j := j) (z := g kc j) hpp.2 (by show -lo ≤ _; omega) (by omega) T.2.2.2.1 full (fun q hq c hc => (hI kc t T ht hT).1 q hq c hc j) hf.1 hf.2
      have hbd2 := hHK env fx mem gh g ρ t c i _ kc j hR hpp.1 hpp.2 ht hbd.1 hbd.2
      refine ⟨_, _, _, _, aup ρ ne (g kc j), h, by omega, aup_ag ρ ne _, ?_, ?_⟩
      · have hE : aC (ne + 1) (aup ρ ne (g kc j)) (envR _) := afrs_ok (hC.imp (fun _ x => x.1)) hbd2.1 hbd2.2
        intro τ hτ
        have hτ2 : aag ne ρ τ := aag.tr (by omega) (aup_ag ρ ne _) hτ
        have hc := hC τ hτ2
        have hq := hp τ hτ2
        have hev : ev τ (esym ne) = g kc j := by rw [esym_ev, hτ ne (by omega), aup_self]
        exact ⟨hE τ hτ, hc.2.1, amsR_cons ⟨kc, j, v0, hq.1, hq.2, ht, hcat, hv τ _ hev⟩ hc.2.2.1, hc.2.2.2⟩
      · intro τ hτ
        exact hv τ _ (by rw [esym_ev, hτ ne (by omega), aup_self])
theorem aload_ok (hW : aWd h0 tyt typs) (hHK : aHK h0 tyt GS HK) {g : cg} (hI : aInv tyt typs g) {t : Nat} {c0 i0 : ae} {mem : List am} {env : aenv} {fx : List ae} {gh : List gho} {ne : Nat} {k : av → List am → aenv → Nat → Bool} {ρ : Nat → Int} {kc j : Nat}
    (hC : aC ne ρ (coR h0 tyt GS env fx mem gh g)) (hp0 : aC ne ρ (fun τ => ev τ c0 = (kc : Int) ∧ ev τ i0 = (j : Int))) (ht : xg tyt kc = some t) {v0 : cv} (hcat : cat h0 g kc j v0) {q : xcell} (hq : xg h0 kc = some q) (hj : j < q.2.1)
    (h : aload h0 typs HK t c0 i0 mem env fx gh ne k = true) : ∃ v mem' env' ne' ρ', k v mem' env' ne' = true ∧ ne ≤ ne' ∧ aag ne ρ ρ' ∧ aC ne' ρ' (coR h0 tyt GS env' fx mem' gh g) ∧ aC ne' ρ' (fun τ => avR tyt τ v v0) := by
  unfold aload at h
  rw [efrc_eq, efrc_eq] at h
  have hp : aC ne ρ (fun τ => ev τ (enor env c0) = (kc : Int) ∧ ev τ (enor env i0) = (j : Int)) := fun τ hτ => by
    have := hp0 τ hτ
    have hE := (hC τ hτ).1
    exact ⟨(enor_ok hE c0).trans this.1, (enor_ok hE i0).trans this.2⟩
  generalize enor env c0 = c at h hp
  generalize enor env i0 = i at h hp
  cases hm : amg env t c i mem with
  | some v =>
    rw [hm] at h
    refine ⟨v, mem, env, ne, ρ, h, Nat.le_refl _, aag.rf ne ρ, hC, fun τ hτ => ?_⟩
    obtain ⟨k', j', w, a1, a2, a3, a4⟩ := amg_ok (hC τ hτ).1 (hC τ hτ).2.2.1 hm
    have hq := hp τ hτ
    have e1 : k' = kc := by have := hq.1; omega
    have e2 : j' = j := by have := hq.2; omega
    subst e1; subst e2
    rw [cat_inj h0 hcat a3]
    exact a4
  | none =>
    rw [hm] at h
    dsimp only at h
    obtain ⟨q', T, w1, w2, w3, w4, w5, w6, w7, w8⟩ := hW kc t ht
    have eq : q' = q := Option.some.inj (w1.symm.trans hq)
    subst eq
    obtain ⟨w, u, u1, u2, u3, u4⟩ := w8 j hj
    rw [w2] at h
    obtain ⟨h1, h2⟩ := xcnb h
    have hpl : apl T i.1.toNat = some u := by
      rw [← u2]
      cases hb : Nat.blt T.1 13 with
      | false => unfold apl; rw [hb]; rfl
      | true =>
        rw [hb] at h1
        simp only [cond_true] at h1
        split at h1
        · rename_i hn
          have e := hp.self.2
          have e2 : ev ρ i = i.1 := by unfold ev; rw [hn]; show _ + 0 = _; omega
          have e3 : i.1.toNat = j := by omega
          rw [e3]
        · cases h1
    rw [hpl] at h2
    dsimp only at h2
    have hcv : v0 = cval w (g kc j) := by
      obtain ⟨qq, ww, c1, c2, c3⟩ := hcat
      have e1 : qq = q' := Option.some.inj (c1.symm.trans w1)
      subst e1
      have e2 : ww = w := Option.some.inj (c2.symm.trans u1)
      subst e2
      exact c3
    have hrange := (hI kc t T ht w2).2 j u (by rw [w4]; exact hj) u2
    obtain ⟨wt, wn⟩ := w
    obtain ⟨ut, un⟩ := u
    have u3 : wt = ut := u3
    subst u3
    split at h2
    · rename_i hz
      have hz : wt = 0 := hz
      subst hz
      have hr := hrange.1 rfl
      refine anum_ok hHK hI hC hp ht w2 hcat ?_ (fun τ e he => ?_) h2
      · unfold cI at hr
        constructor
        · exact hr.1
        · show g kc j ≤ 2147483647
          omega
      · rw [hcv]
        exact ⟨by show (0, g kc j) = (0, ev τ e); rw [he], by show cI (ev τ e); rw [he]; exact hr⟩
    · rename_i hz
      have hz : wt = 2 := hz
      subst hz
      have hr := hrange.2 rfl
      refine anum_ok hHK hI hC hp ht w2 hcat ?_ (fun τ e he => ?_) h2
      · unfold cL at hr
        constructor
        · exact hr.1
        · show g kc j ≤ 9223372036854775807
          omega
      · rw [hcv]
        exact ⟨by show (2, g kc j) = (2, ev τ e); rw [he], by show cL (ev τ e); rw [he]; exact hr⟩
    · rename_i hz
      have hz : wt = 4 := hz
      subst hz
      have hty : xg tyt wn = some un := by
        rcases u4 with z | z | z
        · cases z
        · cases z
        · exact z.2
      have hv4 : ∀ τ : Nat → Int, ∀ e : ae, ev τ e = (wn : Int) → avR tyt τ (4, un, e) v0 := fun τ e he => ⟨wn, hcv, he, hty⟩
      split at h2
      · rename_i hc0 hi0
        have e1 : ev ρ c = c.1 := by unfold ev; rw [hc0]; show _ + 0 = _; omega
        have e2 : ev ρ i = i.1 := by unfold ev; rw [hi0]; show _ + 0 = _; omega
        have e3 : c.1.toNat = kc := by have := hp.self.1; omega
        have e4 : i.1.toNat = j := by have := hp.self.2; omega
        rw [e3, w1] at h2
        dsimp only at h2
        rw [e4, u1] at h2
        dsimp only at h2
        rw [xfrc_eq] at h2
        exact ⟨_, mem, env, ne, ρ, h2, Nat.le_refl _, aag.rf ne ρ, hC, fun τ _ => hv4 τ _ (by show (wn : Int) + 0 = _; omega)⟩
      · obtain ⟨q2, T2, x1, x2, x3, x4, x5, x6, x7, x8⟩ := hW wn un hty
        have h2 : (match xg typs un with
                | none => false
                | some T2 => zfrc T2.2.2.1.1 (fun a => zfrc T2.2.2.1.2 (fun b => xfrc un (fun t2 => afrs a b env ne (fun env' ne' => k (4, t2, esym ne) ((t, c, i, (4, t2, esym ne)) :: mem) env' ne'))))) = true := h2
        rw [x2] at h2
        dsimp only at h2
        rw [zfrc_eq, zfrc_eq, xfrc_eq, afrs_eq] at h2
        refine ⟨_, _, _, _, aup ρ ne (wn : Int), h2, by omega, aup_ag ρ ne _, ?_, ?_⟩
        · have hE : aC (ne + 1) (aup ρ ne (wn : Int)) (envR _) := afrs_ok (hC.imp (fun _ x => x.1)) x6 x7
          intro τ hτ
          have hτ2 : aag ne ρ τ := aag.tr (by omega) (aup_ag ρ ne _) hτ
          have hc := hC τ hτ2
          have hq := hp τ hτ2
          have hev : ev τ (esym ne) = (wn : Int) := by rw [esym_ev, hτ ne (by omega), aup_self]
          exact ⟨hE τ hτ, hc.2.1, amsR_cons ⟨kc, j, v0, hq.1, hq.2, ht, hcat, hv4 τ _ hev⟩ hc.2.2.1, hc.2.2.2⟩
        · intro τ hτ
          exact hv4 τ _ (by rw [esym_ev, hτ ne (by omega), aup_self])
    · cases h2
end Load
end
section
/-! The checker's step: one instruction over expressions; rec is asked about what follows -/
abbrev afr : Type := Nat × Nat × List (Nat × av) × List av
/-- method, depth that is left at least, pc, locals, stack, frames below, places, intervals, facts, ghosts, symbols -/
abbrev aF : Type := Nat → Nat → Nat → List (Nat × av) → List av → List afr → List am → aenv → List ae → List gho → Nat → Bool
def alk : List (Nat × av) → Nat → Option av
  | [], _ => none
  | q :: l, i => cond (Nat.beq q.1 i) (some q.2) (alk l i)
def akp (f : Nat → Nat × xv → Bool) (i : Nat) (q : Nat × av) : Bool := f i (q.1, (q.2.1, 0))
def aflt (p : Nat × av → Bool) : List (Nat × av) → (List (Nat × av) → Bool) → Bool
  | [], c => c []
  | q :: l, c => cond (p q) (aflt p l (fun m => c (q :: m))) (aflt p l c)
theorem aflt_eq (p : Nat × av → Bool) : ∀ (l : List (Nat × av)) (c : List (Nat × av) → Bool), aflt p l c = c (l.filter p)
  | [], _ => rfl
  | q :: l, c => by
    show cond (p q) (aflt p l (fun m => c (q :: m))) (aflt p l c) = _
    rw [aflt_eq p l, aflt_eq p l, List.filter_cons]
    cases p q <;> rfl
/-- a number's value -/
def sI (n : Nat) : Int := cond (Nat.blt n 2147483648) (Int.ofNat n) (Int.negSucc (4294967295 - n))
def sL (n : Nat) : Int := cond (Nat.blt n 9223372036854775808) (Int.ofNat n) (Int.negSucc (18446744073709551615 - n))
def aneg : Jvm.ClassFile.Cond → Jvm.ClassFile.Cond
  | .eq => .ne
  | .ne => .eq
  | .lt => .ge
  | .ge => .lt
  | .gt => .le
  | .le => .gt
/-- e, if it is in the range, else anything there -/
noncomputable def aar (tag : Nat) (e : ae) (lo hi : Int) (env : aenv) (fx : List ae) (ne : Nat) (k : av → aenv → Nat → Bool) : Bool :=
  cond (efit env fx e lo hi) (k (tag, 0, e) env ne) (afrs lo hi env ne (fun env' ne' => k (tag, 0, esym ne) env' ne'))
/-- something between lo and hi -/
noncomputable def aany (tag : Nat) (lo hi : Int) (env : aenv) (ne : Nat) (k : av → aenv → Nat → Bool) : Bool :=
  cond (zeq lo hi) (zfrc lo (fun z => k (tag, 0, (z, [])) env ne)) (zfrc lo (fun lo => zfrc hi (fun hi => afrs lo hi env ne (fun env' ne' => k (tag, 0, esym ne) env' ne'))))
noncomputable def acn2 (sp : Bool) (o : Jvm.ClassFile.Cond) (env : aenv) (fx : List ae) (e : ae) (k : aenv → List ae → Bool) : Bool :=
  match o, sp with
  | .ne, true => cond (acnd .lt env fx e k) (acnd .gt env fx e k) false
  | o, _ => acnd o env fx e k
def awds : List av → Nat
  | [] => 0
  | w :: l => cond (Nat.beq (xkd w.1) 1) 2 1 + awds l
def aarg : Nat → List av → List (Nat × av)
  | _, [] => []
  | i, w :: l => (i, w) :: aarg (cond (Nat.beq (xkd w.1) 1) (i + 2) (i + 1)) l
/-! stores -/
/-- may the index meet the column -/
def ahit (lo hi : Int) (n : ae) (c : acol) : Bool := cond (zle c.1 hi) (cond (zle lo c.2.1) (cond (zeq c.2.2.1 1) true (zeq (Int.emod (Int.add n.1 (Int.neg c.1)) (Nat.gcd c.2.2.1.natAbs (zgcd n.2) : Nat)) 0)) false) false
/-- a column that lies d behind c, no wider -/
def acol2 (d : Int) (b : Int × Int × List acol) (c : acol) (l : List (Int × Int × List acol)) : Bool :=
  l.any (fun b2 => cond (zeq b2.1 (Int.add b.1 d)) (cond (zeq b2.2.1 (Int.add b.2.1 d)) (b2.2.2.any (fun c2 => cond (zeq c2.1 (Int.add c.1 d)) (cond (zeq c2.2.1 (Int.add c.2.1 d)) (cond (zeq c2.2.2.1 c.2.2.1) (cond (zle c.2.2.2.1 c2.2.2.2.1) (zle c2.2.2.2.2 c.2.2.2.2) false) false) false) false)) false) false)
noncomputable def acpr (env : aenv) (mem : List am) (t : Nat) (c i e : ae) (cols : List (Int × Int × List acol)) (b : Int × Int × List acol) (col : acol) : Bool :=
  mem.any (fun m => cond (Nat.beq m.1 t) (cond (cond (Nat.beq m.2.2.2.1 0) true (Nat.beq m.2.2.2.1 2)) (cond (eeqb m.2.2.2.2.2 e) (cond (eeq env m.2.1 c) (efrc (enor env (eadd m.2.2.1 i (-1))) (fun d => match d.2 with
    | [] => acol2 d.1 b col cols
    | _ => false)) false) false) false) false)
noncomputable def acok (env : aenv) (fx : List ae) (mem : List am) (t : Nat) (c i : ae) (lo hi : Int) (e : ae) (cols : List (Int × Int × List acol)) : Bool :=
  cols.all (fun b => cond (cond (zle b.1 hi) (zle lo b.2.1) false) (b.2.2.all (fun col => cond (ahit lo hi i col) (cond (efit env fx e col.2.2.2.1 col.2.2.2.2) true (acpr env mem t c i e cols b col)) true)) true)
section Store
variable (typs : Lean.RArray (Nat × aty)) (HS : aenv → List ae → List am → List gho → Nat → ae → ae → av → List gho) (WOK : aenv → List ae → Nat → ae → ae → Bool)
/-- a number put at a place -/
noncomputable def astor (t : Nat) (c0 i0 : ae) (v : av) (mem : List am) (env : aenv) (fx : List ae) (gh : List gho) (ne : Nat) (k : List am → List gho → Bool) : Bool :=
  efrc (enor env c0) (fun c => efrc (enor env i0) (fun i => match xg typs t with
    | none => false
    | some T => match eu env i with
      | none => false
      | some hi => efrc (escl i (-1)) (fun n => match eu env n with
        | none => false
        | some lo => zfrc (Int.neg lo) (fun lo => cond (WOK env fx t c i) (cond (acok env fx mem t c i lo hi v.2.2 T.2.2.2.1)
          (match amg env t c i mem with
            | some old => cond (Nat.beq old.1 v.1 && eeq env old.2.2 v.2.2) (k mem gh) (amk env t c i mem (fun r => k ((t, c, i, v) :: r) (HS env fx mem gh t c i v)))
            | none => amk env t c i mem (fun r => k ((t, c, i, v) :: r) (HS env fx mem gh t c i v))) false) false))))
end Store
/-- the symbol that is the script's length; the one that is the script's int at e -/
def asl : List gho → Option Nat
  | [] => none
  | q :: l => cond (Nat.beq q.1 51) (some q.2.1) (asl l)
noncomputable def asg (env : aenv) (e : ae) : List gho → Option Nat
  | [] => none
  | q :: l => cond (Nat.beq q.1 50) (cond (eeq env q.2.2.2 e) (some q.2.1) (asg env e l)) (asg env e l)
section AStep
variable (h0 : xheap) (tyt : Lean.RArray (Nat × Nat)) (typs : Lean.RArray (Nat × aty)) (HK : aenv → List ae → List am → List gho → Nat → ae → ae → Int × Int → Int × Int) (HS : aenv → List ae → List am → List gho → Nat → ae → ae → av → List gho) (WOK : aenv → List ae → Nat → ae → ae → Bool) (WOA : aenv → List ae → Nat → ae → Bool)
variable (HA : aenv → List ae → List am → List gho → Nat → ae → Nat → ae → ae → ae → ae → List gho)
variable (mi : xmi) (el : Nat → Nat) (eb : Nat → List Nat) (inl : Nat → Bool)
variable (SM : Nat → Nat → List av → List am → aenv → List ae → List gho → Nat → (Option av → List am → aenv → List ae → List gho → Nat → Bool) → Bool) (RT : Option av → List am → aenv → List ae → List gho → Nat → Bool)
variable (rec : aF)
variable (nx tg r1 r2 y dd pc : Nat) (ls : List (Nat × av)) (st : List av) (fr : List afr) (mem : List am) (env : aenv) (fx : List ae) (gh : List gho) (ne : Nat)
noncomputable def a_psh (z : Int) : Bool := zfrc z (fun z => rec y dd nx ls ((0, 0, (z, [])) :: st) fr mem env fx gh ne)
noncomputable def a_pshL (z : Int) : Bool := zfrc z (fun z => rec y dd nx ls ((2, 0, (z, [])) :: st) fr mem env fx gh ne)
noncomputable def a_ld (k1 k2 : Nat) : Bool :=
  match alk ls r1 with
  | none => false
  | some w => cond (Nat.beq (xkd w.1) k1 || Nat.beq (xkd w.1) k2) (rec y dd nx ls (w :: st) fr mem env fx gh ne) false
noncomputable def a_st (k1 k2 : Nat) (f : Nat → Nat × xv → Bool) : Bool :=
  match st with
  | [] => false
  | w :: r => cond (Nat.beq (xkd w.1) k1 || Nat.beq (xkd w.1) k2) (aflt (akp f r1) ls (fun m => rec y dd nx ((r1, w) :: m) r fr mem env fx gh ne)) false
noncomputable def a_inc : Bool :=
  match alk ls r1 with
  | none => false
  | some w => cond (Nat.beq w.1 0 && Nat.blt r2 4294967296) (efrc (eadc w.2.2 (sI r2)) (fun e => aar 0 e (-2147483648) 2147483647 env fx ne (fun v env ne => aflt (akp xk1 r1) ls (fun m => rec y dd nx ((r1, v) :: m) st fr mem env fx gh ne)))) false
/-- a + s b -/
noncomputable def a_add (tag : Nat) (lo hi s : Int) : Bool :=
  match st with
  | b :: a :: r => cond (Nat.beq b.1 tag && Nat.beq a.1 tag) (efrc (eadd a.2.2 b.2.2 s) (fun e => aar tag e lo hi env fx ne (fun v env ne => rec y dd nx ls (v :: r) fr mem env fx gh ne))) false
  | _ => false
noncomputable def a_mul (tag : Nat) (lo hi : Int) : Bool :=
  match st with
  | b :: a :: r => cond (Nat.beq b.1 tag && Nat.beq a.1 tag) (efrc (enor env b.2.2) (fun eb => efrc (enor env a.2.2) (fun ea => match eb.2 with
      | [] => efrc (escl ea eb.1) (fun e => aar tag e lo hi env fx ne (fun v env ne => rec y dd nx ls (v :: r) fr mem env fx gh ne))
      | _ => match ea.2 with
        | [] => efrc (escl eb ea.1) (fun e => aar tag e lo hi env fx ne (fun v env ne => rec y dd nx ls (v :: r) fr mem env fx gh ne))
        | _ => match ebd env [] ea with
          | none => false
          | some ia => match ebd env [] eb with
            | none => false
            | some ib => cond (zle lo (zmul4 ia.1 ia.2 ib.1 ib.2).1 && zle (zmul4 ia.1 ia.2 ib.1 ib.2).2 hi)
                (aany tag (zmul4 ia.1 ia.2 ib.1 ib.2).1 (zmul4 ia.1 ia.2 ib.1 ib.2).2 env ne (fun v env ne => rec y dd nx ls (v :: r) fr mem env fx gh ne))
                (aany tag lo hi env ne (fun v env ne => rec y dd nx ls (v :: r) fr mem env fx gh ne))))) false
  | _ => false
/-- a divisor that isn't 0 -/
noncomputable def a_div (tag : Nat) (lo hi : Int) : Bool :=
  match st with
  | b :: a :: r => cond (Nat.beq b.1 tag && Nat.beq a.1 tag) (match ebd env fx a.2.2 with
      | none => false
      | some ia => match ebd env fx b.2.2 with
        | none => false
        | some ib => cond (zlt 0 ib.1 || zlt ib.2 0)
            (cond (zle 0 ia.1 && zlt 0 ib.1) (aany tag (Int.ediv ia.1 ib.2) (Int.ediv ia.2 ib.1) env ne (fun v env ne => rec y dd nx ls (v :: r) fr mem env fx gh ne))
              (aany tag lo hi env ne (fun v env ne => rec y dd nx ls (v :: r) fr mem env fx gh ne))) false) false
  | _ => false
noncomputable def a_rem (tag : Nat) (fa : Bool) : Bool :=
  match st with
  | b :: a :: r => cond (Nat.beq b.1 tag && Nat.beq a.1 tag) (match ebd env fx a.2.2 with
      | none => false
      | some ia => match ebd env fx b.2.2 with
        | none => false
        | some ib => cond (zlt 0 ib.1 || zlt ib.2 0)
            (zfrc (Int.add (cond (zlt 0 ib.1) ib.2 (Int.neg ib.1)) (-1)) (fun m => aany tag (cond (zle 0 ia.1) 0 (zmx (Int.neg m) ia.1)) (cond (zle ia.2 0) 0 (zmn m ia.2)) env ne (fun v env ne =>
              cond fa (efrc (eadc (eadd v.2.2 b.2.2 (cond (zlt 0 ib.1) (-1) 1)) 1) (fun f1 => efrc (eadc (eadd (escl v.2.2 (-1)) b.2.2 (cond (zlt 0 ib.1) (-1) 1)) 1) (fun f2 => rec y dd nx ls (v :: r) fr mem env (f1 :: f2 :: fx) gh ne)))
                (rec y dd nx ls (v :: r) fr mem env fx gh ne)))) false) false
  | _ => false
/-- both known: the machine's own answer -/
noncomputable def a_bit (F : Int32 → Int32 → Int32) (bd : Int × Int → Int × Int → Int × Int) (fa : Bool) : Bool :=
  match st with
  | b :: a :: r => cond (Nat.beq b.1 0 && Nat.beq a.1 0) (match a.2.2.2, b.2.2.2 with
      | [], [] => zfrc (F (i32 a.2.2.1) (i32 b.2.2.1)).toInt (fun z => rec y dd nx ls ((0, 0, (z, [])) :: r) fr mem env fx gh ne)
      | _, _ => match ebd env fx a.2.2 with
        | none => false
        | some ia => match ebd env fx b.2.2 with
          | none => false
          | some ib => zfrc (bd ia ib).1 (fun lo => zfrc (bd ia ib).2 (fun hi => aany 0 lo hi env ne (fun v env ne => cond (fa && zle 0 ib.1) (efrc (eadd v.2.2 b.2.2 (-1)) (fun f => rec y dd nx ls (v :: r) fr mem env (f :: fx) gh ne)) (rec y dd nx ls (v :: r) fr mem env fx gh ne))))) false
  | _ => false
/-- two longs, of which nothing is known then; or a long and an int -/
noncomputable def a_lng (tb : Nat) : Bool :=
  match st with
  | b :: a :: r => cond (Nat.beq b.1 tb && Nat.beq a.1 2) (afrs (-9223372036854775808) 9223372036854775807 env ne (fun env' ne' => rec y dd nx ls ((2, 0, esym ne) :: r) fr mem env' fx gh ne')) false
  | _ => false
noncomputable def a_cnv (t1 t2 : Nat) (lo hi s : Int) : Bool :=
  match st with
  | a :: r => cond (Nat.beq a.1 t1) (efrc (escl a.2.2 s) (fun e => aar t2 e lo hi env fx ne (fun v env ne => rec y dd nx ls (v :: r) fr mem env fx gh ne))) false
  | _ => false
noncomputable def a_i2l : Bool :=
  match st with
  | a :: r => cond (Nat.beq a.1 0) (rec y dd nx ls ((2, 0, a.2.2) :: r) fr mem env fx gh ne) false
  | _ => false
noncomputable def a_dup : Bool :=
  match st with
  | a :: r => cond (Nat.beq (xkd a.1) 1) false (rec y dd nx ls (a :: a :: r) fr mem env fx gh ne)
  | _ => false
noncomputable def a_pop : Bool :=
  match st with
  | a :: r => cond (Nat.beq (xkd a.1) 1) false (rec y dd nx ls r fr mem env fx gh ne)
  | _ => false
noncomputable def a_pop2 : Bool :=
  match st with
  | a :: r => cond (Nat.beq (xkd a.1) 1) (rec y dd nx ls r fr mem env fx gh ne) false
  | _ => false
noncomputable def a_dup2 : Bool :=
  match st with
  | a :: r => cond (Nat.beq (xkd a.1) 1) (rec y dd nx ls (a :: a :: r) fr mem env fx gh ne)
      (match r with
        | b :: r' => cond (Nat.beq (xkd b.1) 1) false (rec y dd nx ls (a :: b :: a :: b :: r') fr mem env fx gh ne)
        | _ => false)
  | _ => false
noncomputable def a_br (sp : Bool) (o : Jvm.ClassFile.Cond) (e : ae) (r : List av) : Bool :=
  cond (acn2 sp o env fx e (fun env fx => rec y dd tg ls r fr mem env fx gh ne)) (acn2 sp (aneg o) env fx e (fun env fx => rec y dd nx ls r fr mem env fx gh ne)) false
noncomputable def a_icmp (sp : Bool) (o : Jvm.ClassFile.Cond) : Bool :=
  match st with
  | b :: a :: r => cond (Nat.beq b.1 0 && Nat.beq a.1 0) (efrc (eadd a.2.2 b.2.2 (-1)) (fun e => a_br rec nx tg y dd ls fr mem env fx gh ne sp o e r)) false
  | _ => false
noncomputable def a_if (sp : Bool) (o : Jvm.ClassFile.Cond) : Bool :=
  match st with
  | a :: r => cond (Nat.beq a.1 0 || Nat.beq a.1 9) (a_br rec nx tg y dd ls fr mem env fx gh ne sp o a.2.2 r) false
  | _ => false
noncomputable def a_nul (t : Bool) : Bool :=
  match st with
  | a :: r => match xkd a.1 with
    | 2 => rec y dd (cond t nx tg) ls r fr mem env fx gh ne
    | 3 => rec y dd (cond t tg nx) ls r fr mem env fx gh ne
    | _ => false
  | _ => false
noncomputable def a_lcmp : Bool :=
  match st with
  | b :: a :: r => cond (Nat.beq b.1 2 && Nat.beq a.1 2) (efrc (eadd a.2.2 b.2.2 (-1)) (fun e => rec y dd nx ls ((9, 0, e) :: r) fr mem env fx gh ne)) false
  | _ => false
noncomputable def atab (e : ae) (r : List av) : List Int → Int → Bool
  | [], _ => true
  | o :: l, v => cond (cond (zle 0 (Int.add (pc : Int) o)) (efrc (eadc e (Int.neg v)) (fun x => acnd .eq env fx x (fun env fx => rec y dd (Int.add (pc : Int) o).toNat ls r fr mem env fx gh ne))) false) (zfrc (Int.add v 1) (fun w => atab e r l w)) false
noncomputable def a_tab (dflt lo hi : Int) (offs : Array Int) : Bool :=
  match st with
  | a :: r => cond (Nat.beq a.1 0 && zle 0 (Int.add (pc : Int) dflt) && zeq (Int.add (Int.add hi 1) (Int.neg lo)) (offs.size : Int))
      (cond (efrc (eadc a.2.2 (Int.neg lo)) (fun x => acnd .lt env fx x (fun env fx => rec y dd (Int.add (pc : Int) dflt).toNat ls r fr mem env fx gh ne)))
        (cond (efrc (eadc a.2.2 (Int.neg hi)) (fun x => acnd .gt env fx x (fun env fx => rec y dd (Int.add (pc : Int) dflt).toNat ls r fr mem env fx gh ne)))
          (atab rec y dd pc ls fr mem env fx gh ne a.2.2 r offs.toList lo) false) false) false
  | _ => false
noncomputable def alkp (e : ae) (r : List av) (dflt : Int) : List (Int × Int) → aenv → List ae → Bool
  | [], env, fx => cond (zle 0 (Int.add (pc : Int) dflt)) (rec y dd (Int.add (pc : Int) dflt).toNat ls r fr mem env fx gh ne) false
  | q :: l, env, fx => efrc (eadc e (Int.neg q.1)) (fun x =>
      cond (cond (zle 0 (Int.add (pc : Int) q.2)) (acnd .eq env fx x (fun env fx => rec y dd (Int.add (pc : Int) q.2).toNat ls r fr mem env fx gh ne)) false)
        (cond (acnd .lt env fx x (fun env fx => alkp e r dflt l env fx)) (acnd .gt env fx x (fun env fx => alkp e r dflt l env fx)) false) false)
noncomputable def a_lkp (dflt : Int) (ps : Array (Int × Int)) : Bool :=
  match st with
  | a :: r => cond (Nat.beq a.1 0) (alkp rec y dd pc ls fr mem gh ne a.2.2 r dflt ps.toList env fx) false
  | _ => false
noncomputable def a_get : Bool :=
  match st with
  | w :: r => match w.1 with
    | 4 => match xg typs w.2.1 with
      | none => false
      | some T => cond (Nat.beq T.1 r1 && Nat.blt r1 13 && Nat.blt r2 T.2.1) (aload h0 typs HK w.2.1 w.2.2 ((r2 : Int), []) mem env fx gh ne (fun v mem env ne => rec y dd nx ls (v :: r) fr mem env fx gh ne)) false
    | 6 => cond ((Nat.beq w.2.1 1 || Nat.beq w.2.1 3) && Nat.beq r1 98) (rec y dd nx ls ((cond (Nat.beq r2 0) (6, w.2.1 + 1, (0, [])) (0, 0, (0, []))) :: r) fr mem env fx gh ne) false
    | _ => false
  | _ => false
/-- does the value fit a field -/
noncomputable def aftf (tc : Nat) (v : av) : Bool :=
  match tc with
  | 0 => Nat.beq v.1 0
  | 1 => Nat.beq v.1 2
  | 3 => cond (Nat.beq v.1 0) (efit env fx v.2.2 0 1) false
  | _ => false
noncomputable def a_put : Bool :=
  match st with
  | v :: w :: r => cond (Nat.beq w.1 4 && aftf env fx tg v) (match xg typs w.2.1 with
      | none => false
      | some T => cond (Nat.beq T.1 r1 && Nat.blt r1 13 && Nat.blt r2 T.2.1) (match agt T.2.2.2.2 r2 with
        | none => false
        | some u => cond (Nat.beq u.1 v.1) (astor typs HS WOK w.2.1 w.2.2 ((r2 : Int), []) v mem env fx gh ne (fun mem gh => rec y dd nx ls r fr mem env fx gh ne)) false) false) false
  | _ => false
noncomputable def a_len : Bool :=
  match st with
  | w :: r => match w.1 with
    | 4 => match xg typs w.2.1 with
      | none => false
      | some T => cond (Nat.ble 13 T.1) (xfrc T.2.1 (fun n => rec y dd nx ls ((0, 0, ((n : Int), [])) :: r) fr mem env fx gh ne)) false
    | 6 => cond (Nat.beq w.2.1 0) (match asl gh with
      | none => false
      | some s => rec y dd nx ls ((0, 0, esym s) :: r) fr mem env fx gh ne) (cond ((Nat.beq w.2.1 2 || Nat.beq w.2.1 4) && Nat.blt (el w.2.1) 2147483648) (xfrc (el w.2.1) (fun n => rec y dd nx ls ((0, 0, ((n : Int), [])) :: r) fr mem env fx gh ne)) false)
    | _ => false
  | _ => false
noncomputable def a_ald (kd : Nat) : Bool :=
  match st with
  | i :: w :: r => cond (Nat.beq i.1 0) (match w.1 with
    | 4 => match xg typs w.2.1 with
      | none => false
      | some T => cond ((Nat.beq T.1 kd || (Nat.beq kd 20 && Nat.ble 20 T.1)) && Nat.ble 13 T.1 && efit env fx i.2.2 0 (Int.add (T.2.1 : Int) (-1))) (aload h0 typs HK w.2.1 w.2.2 i.2.2 mem env fx gh ne (fun v mem env ne => rec y dd nx ls (v :: r) fr mem env fx gh ne)) false
    | 6 => efrc (enor env i.2.2) (fun n => cond (Nat.beq w.2.1 0) (cond (Nat.beq kd 13) (match asl gh with
        | none => false
        | some s => cond (elef env fx 2 (escl n (-1)) && elef env fx 2 (eadc (eadd n (esym s) (-1)) 1)) (match asg env n gh with
          | some z => rec y dd nx ls ((0, 0, esym z) :: r) fr mem env fx gh ne
          | none => afrs (-2147483648) 2147483647 env ne (fun env' ne' => rec y dd nx ls ((0, 0, esym ne) :: r) fr mem env' fx ((50, ne, 0, n) :: gh) ne')) false) false) (match n.2 with
      | [] => cond ((Nat.beq w.2.1 2 || Nat.beq w.2.1 4) && Nat.beq kd 15 && zle 0 n.1 && Nat.blt n.1.toNat (el w.2.1) && Nat.blt n.1.toNat 2147483648 && Nat.blt ((eb w.2.1).getD n.1.toNat 0) 2147483648) (xfrc ((eb w.2.1).getD n.1.toNat 0) (fun z => rec y dd nx ls ((0, 0, ((z : Int), [])) :: r) fr mem env fx gh ne)) false
      | _ => false))
    | _ => false) false
  | _ => false
noncomputable def a_ast (kd : Nat) : Bool :=
  match st with
  | v :: i :: w :: r => cond (Nat.beq i.1 0 && Nat.beq w.1 4 && Nat.beq v.1 (cond (Nat.beq kd 14) 2 0)) (match xg typs w.2.1 with
      | none => false
      | some T => cond (Nat.beq T.1 kd && Nat.ble 13 T.1 && efit env fx i.2.2 0 (Int.add (T.2.1 : Int) (-1))) (match agt T.2.2.2.2 0 with
        | none => false
        | some u => cond (Nat.beq u.1 v.1) (cond (Nat.beq kd 15)
            (aar 0 v.2.2 (-128) 127 env fx ne (fun v env ne => astor typs HS WOK w.2.1 w.2.2 i.2.2 v mem env fx gh ne (fun mem gh => rec y dd nx ls r fr mem env fx gh ne)))
            (astor typs HS WOK w.2.1 w.2.2 i.2.2 v mem env fx gh ne (fun mem gh => rec y dd nx ls r fr mem env fx gh ne))) false) false) false
  | _ => false
/-- a call: of a method that is walked into, or by what is known of it -/
noncomputable def a_go (z : Nat) (args rest : List av) : Bool :=
  match dd with
  | 0 => false
  | d' + 1 => match xg mi z with
    | none => false
    | some u => cond (Nat.ble (awds rest) 8 && Nat.ble (awds args) u.2.2.2.2.2 && Nat.beq u.1 0 && Nat.beq u.2.1 0)
        (cond (inl z) (rec z d' 0 (aarg 0 args) [] ((y, nx, ls, rest) :: fr) mem env fx gh ne)
          (SM z d' args mem env fx gh ne (fun rv mem env fx gh ne => rec y dd nx ls (match rv with
            | none => rest
            | some v => v :: rest) fr mem env fx gh ne))) false
noncomputable def arcv (kd : Nat) (w : av) : Bool :=
  match w.1 with
  | 4 => (match xg typs w.2.1 with
    | none => false
    | some T => Nat.beq T.1 kd && Nat.blt kd 13)
  | 6 => (Nat.beq w.2.1 1 || Nat.beq w.2.1 3) && Nat.beq kd 98
  | _ => false
noncomputable def a_call (inst : Bool) : Bool :=
  match xg mi r1 with
  | none => false
  | some u => match cpop (cond inst (u.2.2.1 + 1) u.2.2.1) [] st with
    | none => false
    | some q => match q.1 with
      | [] => cond inst false (a_go mi inl SM rec nx y dd ls fr mem env fx gh ne r1 [] q.2)
      | w :: l => cond (!inst || arcv typs u.2.2.2.1 w) (a_go mi inl SM rec nx y dd ls fr mem env fx gh ne r1 (w :: l) q.2) false
noncomputable def a_cpy : Bool :=
  match st with
  | m :: dp :: b :: sp :: a :: r => cond (Nat.beq m.1 0 && Nat.beq dp.1 0 && Nat.beq b.1 4 && Nat.beq sp.1 0 && Nat.beq a.1 4 && Nat.ble (awds r) 8 && Nat.ble 1 dd) (match xg typs a.2.1 with
    | none => false
    | some Ta => match xg typs b.2.1 with
      | none => false
      | some Tb => cond ((Nat.beq Ta.1 13 || Nat.beq Ta.1 14) && Nat.beq Tb.1 Ta.1 && elef env fx 2 (escl m.2.2 (-1)) && elef env fx 2 (escl dp.2.2 (-1)) && elef env fx 2 (escl sp.2.2 (-1)) && elef env fx 2 (eadc (eadd sp.2.2 m.2.2 1) (Int.neg (Ta.2.1 : Int))) && elef env fx 2 (eadc (eadd dp.2.2 m.2.2 1) (Int.neg (Tb.2.1 : Int))) && WOA env fx b.2.1 b.2.2 &&
          Tb.2.2.2.1.all (fun B => B.2.2.all (fun c => Ta.2.2.2.1.any (fun A => cond (zle A.1 0) (cond (zle (Ta.2.1 : Int) (Int.add A.2.1 1)) (A.2.2.any (fun c2 => cond (zle c2.1 0) (cond (zle (Ta.2.1 : Int) (Int.add c2.2.1 1)) (cond (zeq c2.2.2.1 1) (cond (zle c.2.2.2.1 c2.2.2.2.1) (zle c2.2.2.2.2 c.2.2.2.2) false) false) false) false)) false) false))))
        (rec y dd nx ls r fr (mem.filter (fun x => cond (Nat.beq x.1 b.2.1) (ene env x.2.1 b.2.2) true)) env fx (HA env fx mem gh a.2.1 a.2.2 b.2.1 b.2.2 sp.2.2 dp.2.2 m.2.2) ne) false) false
  | _ => false
noncomputable def a_ret (rv : Option av) : Bool :=
  match fr with
  | [] => RT rv mem env fx gh ne
  | q :: l => rec q.1 (dd + 1) q.2.1 q.2.2.1 (match rv with
    | none => q.2.2.2
    | some v => v :: q.2.2.2) l mem env fx gh ne
noncomputable def arok (rt : Nat) (v : av) : Bool :=
  match rt with
  | 1 => true
  | 3 => efit env fx v.2.2 0 1
  | 4 => efit env fx v.2.2 0 65535
  | 5 => efit env fx v.2.2 0 127
  | _ => false
noncomputable def a_vret : Bool :=
  match xg mi y with
  | none => false
  | some q => match q.2.2.2.2.1, st with
    | 0, [] => a_ret RT rec dd fr mem env fx gh ne none
    | _, _ => false
noncomputable def a_iret : Bool :=
  match xg mi y with
  | none => false
  | some q => match st with
    | [w] => cond (Nat.beq w.1 0 && arok env fx q.2.2.2.2.1 w) (a_ret RT rec dd fr mem env fx gh ne (some w)) false
    | _ => false
noncomputable def a_lret : Bool :=
  match xg mi y with
  | none => false
  | some q => match st with
    | [w] => cond (Nat.beq w.1 2 && Nat.beq q.2.2.2.2.1 2) (a_ret RT rec dd fr mem env fx gh ne (some w)) false
    | _ => false
end AStep
def bdand (a b : Int × Int) : Int × Int := cond (zle 0 b.1) (0, cond (zle 0 a.1) (zmn a.2 b.2) b.2) (cond (zle 0 a.1) (0, a.2) (-2147483648, 2147483647))
def bdor (a b : Int × Int) : Int × Int := cond (zle 0 a.1 && zle 0 b.1) (0, ((2 ^ (Nat.log2 (zmx a.2 b.2).toNat + 1) - 1 : Nat) : Int)) (-2147483648, 2147483647)
def bdshl (a b : Int × Int) : Int × Int := cond (zle 0 a.1 && (zle 0 b.1 && (zle b.2 30 && zle (Int.mul a.2 ((2 ^ b.2.toNat : Nat) : Int)) 2147483647))) (Int.mul a.1 ((2 ^ b.1.toNat : Nat) : Int), Int.mul a.2 ((2 ^ b.2.toNat : Nat) : Int)) (-2147483648, 2147483647)
def bdshr (a _b : Int × Int) : Int × Int := cond (zle 0 a.1) (0, a.2) (a.1, zmx a.2 (-1))
def bdful (_a _b : Int × Int) : Int × Int := (-2147483648, 2147483647)
end
section
/-! The step is right: what the states say, frames, numbers -/
abbrev cfr : Type := Nat × Nat × List (Nat × cv) × List cv
section States
variable (G : xG) (h0 : xheap) (n0 : Nat) (cn0 sn0 : Nat → Nat) (Q : cg → Option cv → Prop)
def cQ : List cfr → Nat → cg → Option cv → Prop
  | [], _, g, rv => Q g rv
  | q :: l, d, g, rv => cT G h0 n0 q.1 (d + 1) q.2.1 q.2.2.1 (cpsh rv q.2.2.2) g (cn0 q.1) (sn0 q.1) (cQ l (d + 1))
def cTF (frc : List cfr) (y d pc : Nat) (lsc : List (Nat × cv)) (stc : List cv) (g : cg) : Prop := cT G h0 n0 y d pc lsc stc g (cn0 y) (sn0 y) (cQ G h0 n0 cn0 sn0 Q frc d)
variable (tyt : Lean.RArray (Nat × Nat)) (typs : Lean.RArray (Nat × aty)) (GS : gho → (Nat → Int) → cg → Prop)
def stR (τ : Nat → Int) : List av → List cv → Prop
  | [], [] => True
  | a :: l, v :: m => avR tyt τ a v ∧ stR τ l m
  | _, _ => False
def lsR (τ : Nat → Int) : List (Nat × av) → List (Nat × cv) → Prop
  | [], [] => True
  | a :: l, v :: m => v.1 = a.1 ∧ avR tyt τ a.2 v.2 ∧ lsR τ l m
  | _, _ => False
def frR (τ : Nat → Int) : List afr → List cfr → Prop
  | [], [] => True
  | a :: l, v :: m => v.1 = a.1 ∧ v.2.1 = a.2.1 ∧ lsR tyt τ a.2.2.1 v.2.2.1 ∧ stR tyt τ a.2.2.2 v.2.2.2 ∧ frR τ l m
  | _, _ => False
/-- fixed: the first symbols, what is not written -/
def aFX (p : Nat) (ρ0 : Nat → Int) (g0 : cg) (wc : Nat → Nat → Prop) (ρ : Nat → Int) (ne : Nat) (g : cg) : Prop := p ≤ ne ∧ aag p ρ0 ρ ∧ ∀ k j : Nat, ¬ wc k j → g k j = g0 k j
def aGm (FX : (Nat → Int) → Nat → cg → Prop) (ρ : Nat → Int) (ls : List (Nat × av)) (st : List av) (fr : List afr) (mem : List am) (env : aenv) (fx : List ae) (gh : List gho) (ne : Nat) (g : cg) (lsc : List (Nat × cv)) (stc : List cv) (frc : List cfr) : Prop :=
  aC ne ρ (coR h0 tyt GS env fx mem gh g) ∧ aC ne ρ (fun τ => lsR tyt τ ls lsc ∧ stR tyt τ st stc ∧ frR tyt τ fr frc) ∧ aInv tyt typs g ∧ FX ρ ne g
def aSnd (FX : (Nat → Int) → Nat → cg → Prop) (rec : aF) : Prop := ∀ (y dd pc : Nat) (ls : List (Nat × av)) (st : List av) (fr : List afr) (mem : List am) (env : aenv) (fx : List ae) (gh : List gho) (ne : Nat), rec y dd pc ls st fr mem env fx gh ne = true →
  ∀ (ρ : Nat → Int) (g : cg) (lsc : List (Nat × cv)) (stc : List cv) (frc : List cfr) (d : Nat), aGm h0 tyt typs GS FX ρ ls st fr mem env fx gh ne g lsc stc frc → dd ≤ d → cTF G h0 n0 cn0 sn0 Q frc y d pc lsc stc g
/-- a value, found -/
def aRes (env : aenv) (fx : List ae) (mem : List am) (gh : List gho) (ne : Nat) (ρ : Nat → Int) (g : cg) (k : av → aenv → Nat → Bool) (v0 : cv) : Prop :=
  ∃ v env' ne' ρ', k v env' ne' = true ∧ ne ≤ ne' ∧ aag ne ρ ρ' ∧ aC ne' ρ' (coR h0 tyt GS env' fx mem gh g) ∧ aC ne' ρ' (fun τ => avR tyt τ v v0)
def aFXm (FX : (Nat → Int) → Nat → cg → Prop) : Prop := ∀ (ρ ρ' : Nat → Int) (ne ne' : Nat) (g : cg), FX ρ ne g → ne ≤ ne' → aag ne ρ ρ' → FX ρ' ne' g
end States
theorem aFX_m {p : Nat} {ρ0 : Nat → Int} {g0 : cg} {wc : Nat → Nat → Prop} : aFXm (aFX p ρ0 g0 wc) := fun ρ ρ' ne ne' g h hn ha => ⟨by have := h.1; omega, aag.tr h.1 h.2.1 ha, h.2.2⟩
section Snd1
variable {h0 : xheap} {tyt : Lean.RArray (Nat × Nat)} {typs : Lean.RArray (Nat × aty)} {GS : gho → (Nat → Int) → cg → Prop}
theorem avR_int {τ : Nat → Int} : ∀ {a : av} {v : cv}, avR tyt τ a v → a.1 = 0 → v = (0, ev τ a.2.2) ∧ cI (ev τ a.2.2)
  | (0, _, _), _, h, _ => h
theorem avR_lng {τ : Nat → Int} : ∀ {a : av} {v : cv}, avR tyt τ a v → a.1 = 2 → v = (2, ev τ a.2.2) ∧ cL (ev τ a.2.2)
  | (2, _, _), _, h, _ => h
theorem avR_ref {τ : Nat → Int} : ∀ {a : av} {v : cv}, avR tyt τ a v → a.1 = 4 → ∃ k : Nat, v = (4, (k : Int)) ∧ ev τ a.2.2 = (k : Int) ∧ xg tyt k = some a.2.1
  | (4, _, _), _, h, _ => h
theorem avR_ext {τ : Nat → Int} : ∀ {a : av} {v : cv}, avR tyt τ a v → a.1 = 6 → v = (6, (a.2.1 : Int))
  | (6, _, _), _, h, _ => h
theorem avR_cmp {τ : Nat → Int} : ∀ {a : av} {v : cv}, avR tyt τ a v → a.1 = 9 → v = (0, csgn (ev τ a.2.2))
  | (9, _, _), _, h, _ => h
/-- tags -/
theorem avR_tag {τ : Nat → Int} : ∀ {a : av} {v : cv}, avR tyt τ a v → v.1 = a.1 ∨ (a.1 = 9 ∧ v.1 = 0)
  | (0, _, _), _, h => Or.inl (by rw [h.1])
  | (1, _, _), _, h => h.elim
  | (2, _, _), _, h => Or.inl (by rw [h.1])
  | (3, _, _), _, h => h.elim
  | (4, _, _), _, h => by obtain ⟨k, h, -⟩ := h; exact Or.inl (by rw [h])
  | (5, _, _), v, h => Or.inl (by rw [show v = (5, 0) from h])
  | (6, n, _), v, h => Or.inl (by rw [show v = (6, (n : Int)) from h])
  | (7, _, _), _, h => h.elim
  | (8, _, _), _, h => h.elim
  | (9, _, e), v, h => Or.inr ⟨rfl, by rw [show v = (0, csgn (ev τ e)) from h]⟩
  | (10, _, _), v, h => Or.inl (by rw [show v = (10, 0) from h])
  | (_ + 11, _, _), _, h => h.elim
theorem avR_kd {τ : Nat → Int} {a : av} {v : cv} (h : avR tyt τ a v) : Nat.beq (xkd v.1) 1 = Nat.beq (xkd a.1) 1 := by
  rcases avR_tag h with e | ⟨e1, e2⟩
  · rw [e]
  · rw [e1, e2]; rfl
theorem avR_kd2 {τ : Nat → Int} {a : av} {v : cv} (h : avR tyt τ a v) {k : Nat} (hk : xkd a.1 = k) (hn : k ≠ 9) : xkd v.1 = k := by
  rcases avR_tag h with e | ⟨e1, e2⟩
  · rw [e]; exact hk
  · rw [e1] at hk
    exact absurd hk.symm hn
theorem stR_cons {τ : Nat → Int} {a : av} {l : List av} {stc : List cv} (h : stR tyt τ (a :: l) stc) : ∃ v m, stc = v :: m ∧ avR tyt τ a v ∧ stR tyt τ l m := by
  cases stc with
  | nil => exact h.elim
  | cons v m => exact ⟨v, m, rfl, h.1, h.2⟩
theorem stR_nil {τ : Nat → Int} {stc : List cv} (h : stR tyt τ [] stc) : stc = [] := by
  cases stc with
  | nil => rfl
  | cons v m => exact h.elim
theorem lsR_lk {τ : Nat → Int} {i : Nat} : ∀ {ls : List (Nat × av)} {lsc : List (Nat × cv)} {a : av}, lsR tyt τ ls lsc → alk ls i = some a → ∃ v, clk lsc i = some v ∧ avR tyt τ a v
  | [], _, _, _, h => by cases h
  | _ :: _, [], _, h, _ => h.elim
  | q :: l, r :: m, a, h, hk => by
    have hk : cond (Nat.beq q.1 i) (some q.2) (alk l i) = some a := hk
    show ∃ v, cond (Nat.beq r.1 i) (some r.2) (clk m i) = some v ∧ avR tyt τ a v
    rw [h.1]
    cases hb : Nat.beq q.1 i with
    | true =>
      rw [hb] at hk
      have e : q.2 = a := Option.some.inj hk
      exact ⟨r.2, rfl, by rw [← e]; exact h.2.1⟩
    | false =>
      rw [hb] at hk
      exact lsR_lk h.2.2 hk
theorem lsR_flt {τ : Nat → Int} {f : Nat → Nat × xv → Bool} (hf : ∀ (i j t t' : Nat), Nat.beq (xkd t) 1 = Nat.beq (xkd t') 1 → f i (j, (t, 0)) = f i (j, (t', 0))) {i : Nat} : ∀ {ls : List (Nat × av)} {lsc : List (Nat × cv)}, lsR tyt τ ls lsc → lsR tyt τ (ls.filter (akp f i)) (lsc.filter (ckp f i))
  | [], [], _ => trivial
  | [], _ :: _, h => h.elim
  | _ :: _, [], h => h.elim
  | q :: l, r :: m, h => by
    have e : akp f i q = ckp f i r := by
      show f i (q.1, (q.2.1, 0)) = f i (r.1, (r.2.1, 0))
      rw [h.1]
      exact hf i q.1 q.2.1 r.2.1 (avR_kd h.2.1).symm
    rw [List.filter_cons, List.filter_cons, e]
    cases ckp f i r with
    | true => exact ⟨h.1, h.2.1, lsR_flt hf h.2.2⟩
    | false => exact lsR_flt hf h.2.2
theorem xk1_kd (i j t t' : Nat) (h : Nat.beq (xkd t) 1 = Nat.beq (xkd t') 1) : xk1 i (j, (t, 0)) = xk1 i (j, (t', 0)) := by
  show (!(Nat.beq j i) && !(Nat.beq (j + 1) i && Nat.beq (xkd t) 1)) = (!(Nat.beq j i) && !(Nat.beq (j + 1) i && Nat.beq (xkd t') 1))
  rw [h]
theorem xk2_kd (i j t t' : Nat) (h : Nat.beq (xkd t) 1 = Nat.beq (xkd t') 1) : xk2 i (j, (t, 0)) = xk2 i (j, (t', 0)) := by
  show (!(Nat.beq j i) && (!(Nat.beq j (i + 1)) && !(Nat.beq (j + 1) i && Nat.beq (xkd t) 1))) = (!(Nat.beq j i) && (!(Nat.beq j (i + 1)) && !(Nat.beq (j + 1) i && Nat.beq (xkd t') 1)))
  rw [h]
theorem stR_wds {τ : Nat → Int} : ∀ {st : List av} {stc : List cv}, stR tyt τ st stc → cwds stc = awds st
  | [], [], _ => rfl
  | [], _ :: _, h => h.elim
  | _ :: _, [], h => h.elim
  | a :: l, v :: m, h => by
    show cond (Nat.beq (xkd v.1) 1) 2 1 + cwds m = cond (Nat.beq (xkd a.1) 1) 2 1 + awds l
    rw [avR_kd h.1, stR_wds h.2]
theorem stR_arg {τ : Nat → Int} : ∀ (i : Nat) {st : List av} {stc : List cv}, stR tyt τ st stc → lsR tyt τ (aarg i st) (carg i stc)
  | _, [], [], _ => trivial
  | _, [], _ :: _, h => h.elim
  | _, _ :: _, [], h => h.elim
  | i, a :: l, v :: m, h => by
    refine ⟨rfl, h.1, ?_⟩
    show lsR tyt τ (aarg (cond (Nat.beq (xkd a.1) 1) (i + 2) (i + 1)) l) (carg (cond (Nat.beq (xkd v.1) 1) (i + 2) (i + 1)) m)
    rw [avR_kd h.1]
    exact stR_arg _ h.2
theorem cpop_R {τ : Nat → Int} : ∀ (n : Nat) {acc st : List av} {accc stc : List cv} {q : List av × List av}, stR tyt τ acc accc → stR tyt τ st stc → cpop n acc st = some q → ∃ qc, cpop n accc stc = some qc ∧ stR tyt τ q.1 qc.1 ∧ stR tyt τ q.2 qc.2
  | 0, acc, st, accc, stc, q, h1, h2, h => by
    cases h
    exact ⟨_, rfl, h1, h2⟩
  | n + 1, acc, [], accc, stc, q, h1, h2, h => by cases h
  | n + 1, acc, a :: l, accc, [], q, h1, h2, h => h2.elim
  | n + 1, acc, a :: l, accc, v :: m, q, h1, h2, h => cpop_R n (acc := a :: acc) (accc := v :: accc) ⟨h2.1, h1⟩ h2.2 h
theorem sI_ok {n : Nat} (h : n < 4294967296) : (nI n).toInt = sI n := by
  rw [nI_int, Nat.mod_eq_of_lt h]
  unfold sI
  cases hb : Nat.blt n 2147483648 with
  | true => rw [if_pos (xltb hb)]; rfl
  | false =>
    have := xnltb hb
    rw [if_neg (by omega)]
    show _ = Int.negSucc _
    rw [Int.negSucc_eq]
    omega
theorem sL_ok {n : Nat} (h : n < 18446744073709551616) : (lN n).toInt = sL n := by
  rw [lN_int, Nat.mod_eq_of_lt h]
  unfold sL
  cases hb : Nat.blt n 9223372036854775808 with
  | true => rw [if_pos (xltb hb)]; rfl
  | false =>
    have := xnltb hb
    rw [if_neg (by omega)]
    show _ = Int.negSucc _
    rw [Int.negSucc_eq]
    omega
theorem coR_env {env env' : aenv} {fx fx' : List ae} {mem : List am} {gh : List gho} {g : cg} {τ : Nat → Int} (h : coR h0 tyt GS env fx mem gh g τ) (h1 : envR env' τ) (h2 : fxR fx' τ) : coR h0 tyt GS env' fx' mem gh g τ := ⟨h1, h2, h.2.2.1, h.2.2.2⟩
theorem aar_ok {tag : Nat} {e : ae} {lo hi : Int} {env : aenv} {fx : List ae} {mem : List am} {gh : List gho} {ne : Nat} {ρ : Nat → Int} {g : cg} {k : av → aenv → Nat → Bool} {v0 : cv} {z : Int} (hC : aC ne ρ (coR h0 tyt GS env fx mem gh g)) (hz : lo ≤ z ∧ z ≤ hi) (he : aC ne ρ (fun τ => lo ≤ ev τ e → ev τ e ≤ hi → ev τ e = z)) (hv : ∀ (τ : Nat → Int) (x : ae), ev τ x = z → avR tyt τ (tag, 0, x) v0)
    (h : aar tag e lo hi env fx ne k = true) : aRes h0 tyt GS env fx mem gh ne ρ g k v0 := by
  unfold aar at h
  cases hf : efit env fx e lo hi with
  | true =>
    rw [hf] at h
    refine ⟨_, env, ne, ρ, h, Nat.le_refl _, aag.rf ne ρ, hC, fun τ hτ => ?_⟩
    obtain ⟨b1, b2⟩ := efit_ok (hC τ hτ).1 (hC τ hτ).2.1 hf
    exact hv τ e (he τ hτ b1 b2)
  | false =>
    rw [hf] at h
    simp only [cond_false] at h
    rw [afrs_eq] at h
    refine ⟨_, _, _, aup ρ ne z, h, by omega, aup_ag ρ ne z, fun τ hτ => ?_, fun τ hτ => hv τ _ (afrs_ev τ hτ)⟩
    exact coR_env (hC τ (aag.tr (by omega) (aup_ag ρ ne z) hτ)) (afrs_ok (hC.imp (fun _ x => x.1)) hz.1 hz.2 τ hτ) (hC τ (aag.tr (by omega) (aup_ag ρ ne z) hτ)).2.1
theorem aany_ok {tag : Nat} {lo hi : Int} {env : aenv} {fx : List ae} {mem : List am} {gh : List gho} {ne : Nat} {ρ : Nat → Int} {g : cg} {k : av → aenv → Nat → Bool} {v0 : cv} {z : Int} (hC : aC ne ρ (coR h0 tyt GS env fx mem gh g)) (hz : lo ≤ z ∧ z ≤ hi) (hv : ∀ (τ : Nat → Int) (x : ae), ev τ x = z → avR tyt τ (tag, 0, x) v0)
    (h : aany tag lo hi env ne k = true) : aRes h0 tyt GS env fx mem gh ne ρ g k v0 := by
  unfold aany at h
  cases hf : zeq lo hi with
  | true =>
    rw [hf] at h
    simp only [cond_true] at h
    rw [zfrc_eq] at h
    have e := zeq_iff.mp hf
    exact ⟨_, env, ne, ρ, h, Nat.le_refl _, aag.rf ne ρ, hC, fun τ hτ => hv τ _ (by show lo + 0 = z; omega)⟩
  | false =>
    rw [hf] at h
    simp only [cond_false] at h
    rw [zfrc_eq, zfrc_eq, afrs_eq] at h
    refine ⟨_, _, _, aup ρ ne z, h, by omega, aup_ag ρ ne z, fun τ hτ => ?_, fun τ hτ => hv τ _ (afrs_ev τ hτ)⟩
    exact coR_env (hC τ (aag.tr (by omega) (aup_ag ρ ne z) hτ)) (afrs_ok (hC.imp (fun _ x => x.1)) hz.1 hz.2 τ hτ) (hC τ (aag.tr (by omega) (aup_ag ρ ne z) hτ)).2.1
theorem crel_neg (o : Jvm.ClassFile.Cond) (a b : Int) : crel (aneg o) a b = !(crel o a b) := by
  cases o
  · show decide (a ≠ b) = !(decide (a = b)); by_cases h : a = b <;> simp [h]
  · show decide (a = b) = !(decide (a ≠ b)); by_cases h : a = b <;> simp [h]
  · show decide (b ≤ a) = !(decide (a < b)); by_cases h : a < b <;> simp [h] <;> omega
  · show decide (a < b) = !(decide (b ≤ a)); by_cases h : b ≤ a <;> simp [h] <;> omega
  · show decide (a ≤ b) = !(decide (b < a)); by_cases h : b < a <;> simp [h] <;> omega
  · show decide (b < a) = !(decide (a ≤ b)); by_cases h : a ≤ b <;> simp [h] <;> omega
theorem crel_sub (o : Jvm.ClassFile.Cond) (a b : Int) : crel o a b = crel o (a - b) 0 := by
  cases o <;> unfold crel <;> apply decide_eq_decide.mpr <;> omega
theorem crel_sgn (o : Jvm.ClassFile.Cond) (a : Int) : crel o (csgn a) 0 = crel o a 0 := by
  unfold csgn
  cases o <;> unfold crel <;> apply decide_eq_decide.mpr <;> (split <;> first | omega | (split <;> omega))
theorem acn2_ok {P : (Nat → Int) → Prop} (hP : ∃ ρ, P ρ) {sp : Bool} {o : Jvm.ClassFile.Cond} {env : aenv} {fx : List ae} {e : ae} {k : aenv → List ae → Bool} (h : acn2 sp o env fx e k = true) {z : Int} (hz : ∀ ρ, P ρ → ev ρ e = z) (hR : ∀ ρ, P ρ → envR env ρ ∧ fxR fx ρ) (ho : crel o z 0 = true) :
    ∃ env' fx', k env' fx' = true ∧ ∀ ρ, P ρ → envR env' ρ ∧ fxR fx' ρ := by
  have go : ∀ o2, crel o2 z 0 = true → acnd o2 env fx e k = true → ∃ env' fx', k env' fx' = true ∧ ∀ ρ, P ρ → envR env' ρ ∧ fxR fx' ρ := fun o2 h1 h2 => acnd_ok hP h2 (fun ρ p => ⟨(hR ρ p).1, (hR ρ p).2, by rw [hz ρ p]; exact h1⟩)
  unfold acn2 at h
  split at h
  · obtain ⟨h1, h2⟩ := xcnb h
    have hne : z ≠ 0 := of_decide_eq_true ho
    by_cases hl : z < 0
    · exact go .lt (decide_eq_true hl) h1
    · exact go .gt (decide_eq_true (show 0 < z by omega)) h2
  · exact go o ho h
end Snd1
end
section
/-! The step is right: instructions of a frame -/
section Snd2
variable {sv : Nat → Int32} {cd : xcd} {mi : xmi} {df : xdf} {el : Nat → Nat} {eb : Nat → List Nat} {G : xG} {h0 : xheap} {n0 : Nat} {cn0 sn0 : Nat → Nat} {Q : cg → Option cv → Prop}
variable {tyt : Lean.RArray (Nat × Nat)} {typs : Lean.RArray (Nat × aty)} {GS : gho → (Nat → Int) → cg → Prop} {FX : (Nat → Int) → Nat → cg → Prop}
variable {rec : aF} {y d dd pc nx tg r1 r2 : Nat} {ins : Instr} {ls : List (Nat × av)} {st : List av} {fr : List afr} {mem : List am} {env : aenv} {fx : List ae} {gh : List gho} {ne : Nat} {ρ : Nat → Int} {g : cg} {lsc : List (Nat × cv)} {stc : List cv} {frc : List cfr}
/-- the next state, whatever it is -/
theorem a_nx (hF : aFXm FX) (hrec : aSnd G h0 n0 cn0 sn0 Q tyt typs GS FX rec) (hI : aInv tyt typs g) (hX : FX ρ ne g) (hd : dd ≤ d) {pc' : Nat} {ls' : List (Nat × av)} {st' : List av} {mem' : List am} {env' : aenv} {fx' : List ae} {gh' : List gho} {ne' : Nat} {ρ' : Nat → Int} {lsc' : List (Nat × cv)} {stc' : List cv}
    (h : rec y dd pc' ls' st' fr mem' env' fx' gh' ne' = true) (hn : ne ≤ ne') (ha : aag ne ρ ρ') (hC : aC ne' ρ' (coR h0 tyt GS env' fx' mem' gh' g)) (hl : aC ne' ρ' (fun τ => lsR tyt τ ls' lsc')) (hs : aC ne' ρ' (fun τ => stR tyt τ st' stc')) (hf : aC ne ρ (fun τ => frR tyt τ fr frc)) : cTF G h0 n0 cn0 sn0 Q frc y d pc' lsc' stc' g :=
  hrec _ _ _ _ _ _ _ _ _ _ _ h ρ' g lsc' stc' frc d ⟨hC, fun τ hτ => ⟨hl τ hτ, hs τ hτ, hf.mono hn ha τ hτ⟩, hI, hF _ _ _ _ _ hX hn ha⟩ hd
/-- the same symbols -/
theorem a_n0 (hF : aFXm FX) (hrec : aSnd G h0 n0 cn0 sn0 Q tyt typs GS FX rec) (hγ : aGm h0 tyt typs GS FX ρ ls st fr mem env fx gh ne g lsc stc frc) (hd : dd ≤ d) {pc' : Nat} {ls' : List (Nat × av)} {st' : List av} {lsc' : List (Nat × cv)} {stc' : List cv}
    (h : rec y dd pc' ls' st' fr mem env fx gh ne = true) (hl : aC ne ρ (fun τ => lsR tyt τ ls' lsc')) (hs : aC ne ρ (fun τ => stR tyt τ st' stc')) : cTF G h0 n0 cn0 sn0 Q frc y d pc' lsc' stc' g :=
  a_nx hF hrec hγ.2.2.1 hγ.2.2.2 hd h (Nat.le_refl _) (aag.rf _ _) hγ.1 hl hs (hγ.2.1.imp (fun _ x => x.2.2))
theorem a_nr (hF : aFXm FX) (hrec : aSnd G h0 n0 cn0 sn0 Q tyt typs GS FX rec) (hγ : aGm h0 tyt typs GS FX ρ ls st fr mem env fx gh ne g lsc stc frc) (hd : dd ≤ d) {pc' : Nat} {r : List av} {rc : List cv} {v0 : cv}
    (hs : aC ne ρ (fun τ => stR tyt τ r rc)) (h : aRes h0 tyt GS env fx mem gh ne ρ g (fun v env ne => rec y dd pc' ls (v :: r) fr mem env fx gh ne) v0) : cTF G h0 n0 cn0 sn0 Q frc y d pc' lsc (v0 :: rc) g := by
  obtain ⟨v, env', ne', ρ', h1, h2, h3, h4, h5⟩ := h
  exact a_nx hF hrec hγ.2.2.1 hγ.2.2.2 hd h1 h2 h3 h4 ((hγ.2.1.imp (fun _ x => x.1)).mono h2 h3) (fun τ hτ => ⟨h5 τ hτ, hs.mono h2 h3 τ hτ⟩) (hγ.2.1.imp (fun _ x => x.2.2))
theorem aGm.gl (hγ : aGm h0 tyt typs GS FX ρ ls st fr mem env fx gh ne g lsc stc frc) : aC ne ρ (fun τ => lsR tyt τ ls lsc) := hγ.2.1.imp (fun _ x => x.1)
theorem aGm.gs (hγ : aGm h0 tyt typs GS FX ρ ls st fr mem env fx gh ne g lsc stc frc) : aC ne ρ (fun τ => stR tyt τ st stc) := hγ.2.1.imp (fun _ x => x.2.1)
/-- the stack's top -/
theorem a_top {a : av} {r : List av} (h : aC ne ρ (fun τ => stR tyt τ (a :: r) stc)) : ∃ v rc, stc = v :: rc ∧ aC ne ρ (fun τ => avR tyt τ a v) ∧ aC ne ρ (fun τ => stR tyt τ r rc) := by
  obtain ⟨v, rc, e, -, -⟩ := stR_cons h.self
  subst e
  exact ⟨v, rc, rfl, h.imp (fun _ x => x.1), h.imp (fun _ x => x.2)⟩
theorem a_int {a : av} {v : cv} (h : aC ne ρ (fun τ => avR tyt τ a v)) (ht : a.1 = 0) : ∃ z, v = (0, z) ∧ cI z ∧ aC ne ρ (fun τ => ev τ a.2.2 = z) := by
  obtain ⟨h1, h2⟩ := avR_int h.self ht
  refine ⟨_, h1, h2, fun τ hτ => ?_⟩
  have := (avR_int (h τ hτ) ht).1
  rw [h1] at this
  exact (congrArg Prod.snd this).symm
theorem a_lngv {a : av} {v : cv} (h : aC ne ρ (fun τ => avR tyt τ a v)) (ht : a.1 = 2) : ∃ z, v = (2, z) ∧ cL z ∧ aC ne ρ (fun τ => ev τ a.2.2 = z) := by
  obtain ⟨h1, h2⟩ := avR_lng h.self ht
  refine ⟨_, h1, h2, fun τ hτ => ?_⟩
  have := (avR_lng (h τ hτ) ht).1
  rw [h1] at this
  exact (congrArg Prod.snd this).symm
theorem avR_mk0 {z : Int} (hz : cI z) : ∀ (τ : Nat → Int) (x : ae), ev τ x = z → avR tyt τ (0, 0, x) (0, z) := fun τ x e => ⟨by rw [e], by rw [e]; exact hz⟩
theorem avR_mk2 {z : Int} (hz : cL z) : ∀ (τ : Nat → Int) (x : ae), ev τ x = z → avR tyt τ (2, 0, x) (2, z) := fun τ x e => ⟨by rw [e], by rw [e]; exact hz⟩
theorem evc (τ : Nat → Int) (z : Int) : ev τ ((z, []) : ae) = z := ecst_ev τ z
theorem a_psh_ok (hG : cW sv cd mi df el eb G) (hF : aFXm FX) (hrec : aSnd G h0 n0 cn0 sn0 Q tyt typs GS FX rec) (hc : cC cd y pc (ins, nx, tg, r1, r2)) (hγ : aGm h0 tyt typs GS FX ρ ls st fr mem env fx gh ne g lsc stc frc) (hd : dd ≤ d) (he : ∀ (rec : xF) (lx : List (Nat × xv)) (sx : List xv) (h : xheap), xex mi df el eb rec ins nx tg r1 r2 y d pc lx sx [] h n0 (cn0 y) (sn0 y) = rec y d nx lx ((0, r1) :: sx) [] h n0 (cn0 y) (sn0 y)) (hdn : ∀ (lf : dlf) (sx : List cv) (g : cg), dnx h0 sv mi el eb ins nx tg r1 r2 pc lf sx g = dnxt nx lf ((0, (nI r1).toInt) :: sx) g) (hr : r1 < 4294967296) (h : a_psh rec nx y dd ls st fr mem env fx gh ne (sI r1) = true) : cTF G h0 n0 cn0 sn0 Q frc y d pc lsc stc g := by
  unfold a_psh at h
  rw [zfrc_eq] at h
  refine cT_push hG hc he hdn ?_
  rw [sI_ok hr]
  refine a_n0 hF hrec hγ hd h hγ.gl (fun τ hτ => ⟨avR_mk0 ?_ τ _ (evc τ _), hγ.gs τ hτ⟩)
  rw [← sI_ok hr]
  exact cI_of _
theorem a_pshL_ok (hG : cW sv cd mi df el eb G) (hF : aFXm FX) (hrec : aSnd G h0 n0 cn0 sn0 Q tyt typs GS FX rec) (hc : cC cd y pc (ins, nx, tg, r1, r2)) (hγ : aGm h0 tyt typs GS FX ρ ls st fr mem env fx gh ne g lsc stc frc) (hd : dd ≤ d) (he : ∀ (rec : xF) (lx : List (Nat × xv)) (sx : List xv) (h : xheap), xex mi df el eb rec ins nx tg r1 r2 y d pc lx sx [] h n0 (cn0 y) (sn0 y) = rec y d nx lx ((2, r1) :: sx) [] h n0 (cn0 y) (sn0 y)) (hdn : ∀ (lf : dlf) (sx : List cv) (g : cg), dnx h0 sv mi el eb ins nx tg r1 r2 pc lf sx g = dnxt nx lf ((2, (lN r1).toInt) :: sx) g) (hr : r1 < 18446744073709551616) (h : a_pshL rec nx y dd ls st fr mem env fx gh ne (sL r1) = true) : cTF G h0 n0 cn0 sn0 Q frc y d pc lsc stc g := by
  unfold a_pshL at h
  rw [zfrc_eq] at h
  refine cT_pushL hG hc he hdn ?_
  rw [sL_ok hr]
  refine a_n0 hF hrec hγ hd h hγ.gl (fun τ hτ => ⟨avR_mk2 ?_ τ _ (evc τ _), hγ.gs τ hτ⟩)
  rw [← sL_ok hr]
  exact cL_of _
theorem a_pshV_ok (hG : cW sv cd mi df el eb G) (hF : aFXm FX) (hrec : aSnd G h0 n0 cn0 sn0 Q tyt typs GS FX rec) (hc : cC cd y pc (ins, nx, tg, r1, r2)) (hγ : aGm h0 tyt typs GS FX ρ ls st fr mem env fx gh ne g lsc stc frc) (hd : dd ≤ d) {a : av} {v : cv} (hv : ∀ τ, avR tyt τ a v) (he : ∀ (rec : xF) (lx : List (Nat × xv)) (sx : List xv) (h : xheap), xex mi df el eb rec ins nx tg r1 r2 y d pc lx sx [] h n0 (cn0 y) (sn0 y) = rec y d nx lx (cenc v :: sx) [] h n0 (cn0 y) (sn0 y)) (hdn : ∀ (lf : dlf) (sx : List cv) (g : cg), dnx h0 sv mi el eb ins nx tg r1 r2 pc lf sx g = dnxt nx lf (v :: sx) g) (h : rec y dd nx ls (a :: st) fr mem env fx gh ne = true) : cTF G h0 n0 cn0 sn0 Q frc y d pc lsc stc g :=
  cT_pushV hG hc he hdn (a_n0 hF hrec hγ hd h hγ.gl (fun τ hτ => ⟨hv τ, hγ.gs τ hτ⟩))
theorem xor9 {x k1 k2 : Nat} (h : (Nat.beq x k1 || Nat.beq x k2) = true) : x = k1 ∨ x = k2 := (xor2 h).imp xeqb xeqb
theorem a_ld_ok (hG : cW sv cd mi df el eb G) (hF : aFXm FX) (hrec : aSnd G h0 n0 cn0 sn0 Q tyt typs GS FX rec) (hc : cC cd y pc (ins, nx, tg, r1, r2)) (hγ : aGm h0 tyt typs GS FX ρ ls st fr mem env fx gh ne g lsc stc frc) (hd : dd ≤ d) {k1 k2 : Nat} (h1 : k1 ≠ 9) (h2 : k2 ≠ 9) (he : ∀ (rec : xF) (lx : List (Nat × xv)) (sx : List xv) (h : xheap), xex mi df el eb rec ins nx tg r1 r2 y d pc lx sx [] h n0 (cn0 y) (sn0 y) = x_ld rec nx r1 y d lx sx [] h n0 (cn0 y) (sn0 y) k1 k2) (hdn : ∀ (lf : dlf) (sx : List cv) (g : cg), dnx h0 sv mi el eb ins nx tg r1 r2 pc lf sx g = dnxt nx lf (lf r1 :: sx) g) (h : a_ld rec nx r1 y dd ls st fr mem env fx gh ne k1 k2 = true) : cTF G h0 n0 cn0 sn0 Q frc y d pc lsc stc g := by
  unfold a_ld at h
  cases ha : alk ls r1 with
  | none => rw [ha] at h; cases h
  | some w =>
    rw [ha] at h
    obtain ⟨g1, g2⟩ := xcnb h
    obtain ⟨v, e1, e2⟩ := lsR_lk hγ.gl.self ha
    have hk : xkd v.1 = k1 ∨ xkd v.1 = k2 := (xor9 g1).imp (fun z => avR_kd2 e2 z h1) (fun z => avR_kd2 e2 z h2)
    refine cT_ld hG hc he hdn e1 hk (a_n0 hF hrec hγ hd g2 hγ.gl (fun τ hτ => ⟨?_, hγ.gs τ hτ⟩))
    obtain ⟨v', e3, e4⟩ := lsR_lk (hγ.gl τ hτ) ha
    have : v' = v := Option.some.inj (e3.symm.trans e1)
    rw [← this]; exact e4
theorem a_st_ok (hG : cW sv cd mi df el eb G) (hF : aFXm FX) (hrec : aSnd G h0 n0 cn0 sn0 Q tyt typs GS FX rec) (hc : cC cd y pc (ins, nx, tg, r1, r2)) (hγ : aGm h0 tyt typs GS FX ρ ls st fr mem env fx gh ne g lsc stc frc) (hd : dd ≤ d) {k1 k2 : Nat} {f : Nat → Nat × xv → Bool} (h1 : k1 ≠ 9) (h2 : k2 ≠ 9) (hf : ∀ (i j : Nat) (w : xv), f i (j, w) = f i (j, (w.1, 0))) (hfk : ∀ (i j t t' : Nat), Nat.beq (xkd t) 1 = Nat.beq (xkd t') 1 → f i (j, (t, 0)) = f i (j, (t', 0))) (hfz : ∀ (i : Nat) (w : xv), f i (i, w) = false) (he : ∀ (rec : xF) (lx : List (Nat × xv)) (sx : List xv) (h : xheap), xex mi df el eb rec ins nx tg r1 r2 y d pc lx sx [] h n0 (cn0 y) (sn0 y) = x_st rec nx r1 y d lx sx [] h n0 (cn0 y) (sn0 y) k1 k2 f) (hdn : ∀ (lf : dlf) (sx : List cv) (g : cg), dnx h0 sv mi el eb ins nx tg r1 r2 pc lf sx g = d_sto nx r1 lf sx g) (h : a_st rec nx r1 y dd ls st fr mem env fx gh ne k1 k2 f = true) : cTF G h0 n0 cn0 sn0 Q frc y d pc lsc stc g := by
  unfold a_st at h
  match st, hγ, h with
  | [], _, h => cases h
  | w :: r, hγ, h =>
    obtain ⟨g1, g2⟩ := xcnb h
    rw [aflt_eq] at g2
    obtain ⟨v, rc, rfl, hv, hr⟩ := a_top hγ.gs
    have hk : xkd v.1 = k1 ∨ xkd v.1 = k2 := (xor9 g1).imp (fun z => avR_kd2 hv.self z h1) (fun z => avR_kd2 hv.self z h2)
    exact cT_sto hG hc hf hfz he hdn hk (a_n0 hF hrec hγ hd g2 (fun τ hτ => ⟨rfl, hv τ hτ, lsR_flt hfk (hγ.gl τ hτ)⟩) hr)
theorem a_inc_ok (hG : cW sv cd mi df el eb G) (hF : aFXm FX) (hrec : aSnd G h0 n0 cn0 sn0 Q tyt typs GS FX rec) (hγ : aGm h0 tyt typs GS FX ρ ls st fr mem env fx gh ne g lsc stc frc) (hd : dd ≤ d) {i : Nat} {z : Int} (hc : cC cd y pc (.iinc i z, nx, tg, r1, r2)) (h : a_inc rec nx r1 r2 y dd ls st fr mem env fx gh ne = true) : cTF G h0 n0 cn0 sn0 Q frc y d pc lsc stc g := by
  unfold a_inc at h
  cases ha : alk ls r1 with
  | none => rw [ha] at h; cases h
  | some w =>
    rw [ha] at h
    obtain ⟨g1, g2⟩ := xcnb h
    obtain ⟨g3, g4⟩ := xand g1
    rw [efrc_eq] at g2
    obtain ⟨v, e1, e2⟩ := lsR_lk hγ.gl.self ha
    have hv : aC ne ρ (fun τ => avR tyt τ w v) := fun τ hτ => by
      obtain ⟨v', e3, e4⟩ := lsR_lk (hγ.gl τ hτ) ha
      have : v' = v := Option.some.inj (e3.symm.trans e1)
      rw [← this]; exact e4
    obtain ⟨x, rfl, hx, hxe⟩ := a_int hv (xeqb g3)
    refine cT_inc hG hc e1 ?_
    have hcI := cI_of (i32 x + nI r2)
    have hres := aar_ok (v0 := (0, (i32 x + nI r2).toInt)) (z := (i32 x + nI r2).toInt) hγ.1 ⟨hcI.1, by have := hcI.2; omega⟩ (fun τ hτ b1 b2 => by
      rw [eadc_ev, hxe τ hτ] at b1 b2 ⊢
      have e3 : nI r2 = i32 (sI r2) := by rw [← sI_ok (xltb g4), i32_of]
      rw [e3, i32_add, i32_int]
      unfold cI
      omega) (avR_mk0 hcI) g2
    obtain ⟨v, env', ne', ρ', q1, q2, q3, q4, q5⟩ := hres
    dsimp only at q1
    rw [aflt_eq] at q1
    exact a_nx hF hrec hγ.2.2.1 hγ.2.2.2 hd q1 q2 q3 q4 (fun τ hτ => ⟨rfl, q5 τ hτ, lsR_flt xk1_kd (hγ.gl.mono q2 q3 τ hτ)⟩) (hγ.gs.mono q2 q3) (hγ.2.1.imp (fun _ x => x.2.2))
/-- two ints; two longs -/
theorem a_two {tag : Nat} {k : av → av → List av → Bool} (h : (match st with
    | b :: a :: r => cond (Nat.beq b.1 tag && Nat.beq a.1 tag) (k b a r) false
    | _ => false) = true) (hs : aC ne ρ (fun τ => stR tyt τ st stc)) : ∃ b a r vb va rc, st = b :: a :: r ∧ stc = vb :: va :: rc ∧ b.1 = tag ∧ a.1 = tag ∧ aC ne ρ (fun τ => avR tyt τ b vb) ∧ aC ne ρ (fun τ => avR tyt τ a va) ∧ aC ne ρ (fun τ => stR tyt τ r rc) ∧ k b a r = true := by
  match st, hs, h with
  | [], _, h => cases h
  | [_], _, h => cases h
  | b :: a :: r, hs, h =>
    obtain ⟨g1, g2⟩ := xcnb h
    obtain ⟨g3, g4⟩ := xand g1
    obtain ⟨vb, rc1, rfl, hb, hs1⟩ := a_top hs
    obtain ⟨va, rc, rfl, ha, hs2⟩ := a_top hs1
    exact ⟨b, a, r, vb, va, rc, rfl, rfl, xeqb g3, xeqb g4, hb, ha, hs2, g2⟩
theorem a_addI_ok (hG : cW sv cd mi df el eb G) (hF : aFXm FX) (hrec : aSnd G h0 n0 cn0 sn0 Q tyt typs GS FX rec) (hc : cC cd y pc (ins, nx, tg, r1, r2)) (hγ : aGm h0 tyt typs GS FX ρ ls st fr mem env fx gh ne g lsc stc frc) (hd : dd ≤ d) {f : Nat → Nat → Nat} {F : Int32 → Int32 → Int32} {s : Int} (he : ∀ (rec : xF) (lx : List (Nat × xv)) (sx : List xv) (h : xheap), xex mi df el eb rec ins nx tg r1 r2 y d pc lx sx [] h n0 (cn0 y) (sn0 y) = x_bi rec nx y d lx sx [] h n0 (cn0 y) (sn0 y) f) (hdn : ∀ (lf : dlf) (sx : List cv) (g : cg), dnx h0 sv mi el eb ins nx tg r1 r2 pc lf sx g = d_bi F nx lf sx g) (hFf : ∀ a b, nI (f a b) = F (nI a) (nI b)) (hFs : ∀ a b, F (i32 a) (i32 b) = i32 (a + s * b))
    (h : a_add rec nx y dd ls st fr mem env fx gh ne 0 (-2147483648) 2147483647 s = true) : cTF G h0 n0 cn0 sn0 Q frc y d pc lsc stc g := by
  obtain ⟨b, a, r, vb, va, rc, rfl, rfl, tb, ta, hb, ha, hs, k⟩ := a_two h hγ.gs
  obtain ⟨x, rfl, hx, hxe⟩ := a_int ha ta
  obtain ⟨z, rfl, hz, hze⟩ := a_int hb tb
  rw [efrc_eq] at k
  refine cT_bi hG hc he hdn hFf ?_
  have hcI := cI_of (F (i32 x) (i32 z))
  refine a_nr hF hrec hγ hd hs (aar_ok hγ.1 ⟨hcI.1, by have := hcI.2; omega⟩ (fun τ hτ b1 b2 => ?_) (avR_mk0 hcI) k)
  rw [eadd_ev, hxe τ hτ, hze τ hτ] at b1 b2 ⊢
  rw [hFs, i32_int]
  unfold cI
  omega
theorem a_addL_ok (hG : cW sv cd mi df el eb G) (hF : aFXm FX) (hrec : aSnd G h0 n0 cn0 sn0 Q tyt typs GS FX rec) (hc : cC cd y pc (ins, nx, tg, r1, r2)) (hγ : aGm h0 tyt typs GS FX ρ ls st fr mem env fx gh ne g lsc stc frc) (hd : dd ≤ d) {f : Nat → Nat → Nat} {F : Int64 → Int64 → Int64} {s : Int} (he : ∀ (rec : xF) (lx : List (Nat × xv)) (sx : List xv) (h : xheap), xex mi df el eb rec ins nx tg r1 r2 y d pc lx sx [] h n0 (cn0 y) (sn0 y) = x_bl rec nx y d lx sx [] h n0 (cn0 y) (sn0 y) f) (hdn : ∀ (lf : dlf) (sx : List cv) (g : cg), dnx h0 sv mi el eb ins nx tg r1 r2 pc lf sx g = d_bl F nx lf sx g) (hFf : ∀ a b, lN (f a b) = F (lN a) (lN b)) (hFs : ∀ a b, F (i64 a) (i64 b) = i64 (a + s * b))
    (h : a_add rec nx y dd ls st fr mem env fx gh ne 2 (-9223372036854775808) 9223372036854775807 s = true) : cTF G h0 n0 cn0 sn0 Q frc y d pc lsc stc g := by
  obtain ⟨b, a, r, vb, va, rc, rfl, rfl, tb, ta, hb, ha, hs, k⟩ := a_two h hγ.gs
  obtain ⟨x, rfl, hx, hxe⟩ := a_lngv ha ta
  obtain ⟨z, rfl, hz, hze⟩ := a_lngv hb tb
  rw [efrc_eq] at k
  refine cT_bl hG hc he hdn hFf ?_
  have hcI := cL_of (F (i64 x) (i64 z))
  refine a_nr hF hrec hγ hd hs (aar_ok hγ.1 ⟨hcI.1, by have := hcI.2; omega⟩ (fun τ hτ b1 b2 => ?_) (avR_mk2 hcI) k)
  rw [eadd_ev, hxe τ hτ, hze τ hτ] at b1 b2 ⊢
  rw [hFs, i64_int]
  unfold cL
  omega
/-- a product: n is what the machine has, in its range -/
theorem a_mulv {tag : Nat} {lo hi : Int} {a b : av} {r : List av} {x z n : Int} {v0 : cv} (hC : aC ne ρ (coR h0 tyt GS env fx mem gh g)) (hxe : aC ne ρ (fun τ => ev τ a.2.2 = x)) (hze : aC ne ρ (fun τ => ev τ b.2.2 = z)) (hn : lo ≤ n ∧ n ≤ hi) (hnm : lo ≤ x * z → x * z ≤ hi → x * z = n) (hv : ∀ (τ : Nat → Int) (e : ae), ev τ e = n → avR tyt τ (tag, 0, e) v0)
    (k : efrc (enor env b.2.2) (fun eb => efrc (enor env a.2.2) (fun ea => match eb.2 with
      | [] => efrc (escl ea eb.1) (fun e => aar tag e lo hi env fx ne (fun v env ne => rec y dd nx ls (v :: r) fr mem env fx gh ne))
      | _ => match ea.2 with
        | [] => efrc (escl eb ea.1) (fun e => aar tag e lo hi env fx ne (fun v env ne => rec y dd nx ls (v :: r) fr mem env fx gh ne))
        | _ => match ebd env [] ea with
          | none => false
          | some ia => match ebd env [] eb with
            | none => false
            | some ib => cond (zle lo (zmul4 ia.1 ia.2 ib.1 ib.2).1 && zle (zmul4 ia.1 ia.2 ib.1 ib.2).2 hi)
                (aany tag (zmul4 ia.1 ia.2 ib.1 ib.2).1 (zmul4 ia.1 ia.2 ib.1 ib.2).2 env ne (fun v env ne => rec y dd nx ls (v :: r) fr mem env fx gh ne))
                (aany tag lo hi env ne (fun v env ne => rec y dd nx ls (v :: r) fr mem env fx gh ne)))) = true) :
    aRes h0 tyt GS env fx mem gh ne ρ g (fun v env ne => rec y dd nx ls (v :: r) fr mem env fx gh ne) v0 := by
  rw [efrc_eq, efrc_eq] at k
  have hxe' : aC ne ρ (fun τ => ev τ (enor env a.2.2) = x) := fun τ hτ => (enor_ok (hC τ hτ).1 _).trans (hxe τ hτ)
  have hze' : aC ne ρ (fun τ => ev τ (enor env b.2.2) = z) := fun τ hτ => (enor_ok (hC τ hτ).1 _).trans (hze τ hτ)
  generalize enor env b.2.2 = eb at k hze'
  generalize enor env a.2.2 = ea at k hxe'
  split at k
  · rename_i hn0
    rw [efrc_eq] at k
    have e1 : eb.1 = z := by have := hze'.self; have e2 : ev ρ eb = eb.1 := by unfold ev; rw [hn0]; show _ + 0 = _; omega
                             omega
    refine aar_ok hC hn (fun τ hτ b1 b2 => ?_) hv k
    rw [escl_ev, hxe' τ hτ, e1, Int.mul_comm] at b1 b2 ⊢
    exact hnm b1 b2
  · split at k
    · rename_i hn0
      rw [efrc_eq] at k
      have e1 : ea.1 = x := by have := hxe'.self; have e2 : ev ρ ea = ea.1 := by unfold ev; rw [hn0]; show _ + 0 = _; omega
                               omega
      refine aar_ok hC hn (fun τ hτ b1 b2 => ?_) hv k
      rw [escl_ev, hze' τ hτ, e1] at b1 b2 ⊢
      exact hnm b1 b2
    · cases h1 : ebd env [] ea with
      | none => rw [h1] at k; cases k
      | some ia =>
        rw [h1] at k
        dsimp only at k
        cases h2 : ebd env [] eb with
        | none => rw [h2] at k; cases k
        | some ib =>
          rw [h2] at k
          dsimp only at k
          cases h3 : (zle lo (zmul4 ia.1 ia.2 ib.1 ib.2).1 && zle (zmul4 ia.1 ia.2 ib.1 ib.2).2 hi) with
          | false => rw [h3] at k; exact aany_ok hC hn hv k
          | true =>
            rw [h3] at k
            obtain ⟨h4, h5⟩ := xand h3
            have h4 := zle_iff.mp h4
            have h5 := zle_iff.mp h5
            have f0 : fxR [] ρ := fun _ z => absurd z List.not_mem_nil
            have i1 := ebd_ok hC.self.1 f0 h1
            have i2 := ebd_ok hC.self.1 f0 h2
            rw [hxe'.self] at i1
            rw [hze'.self] at i2
            have i3 := zmul4_ok i1.1 i1.2 i2.1 i2.2
            have e := hnm (by omega) (by omega)
            rw [e] at i3
            exact aany_ok hC i3 hv k
theorem a_mulI_ok (hG : cW sv cd mi df el eb G) (hF : aFXm FX) (hrec : aSnd G h0 n0 cn0 sn0 Q tyt typs GS FX rec) (hγ : aGm h0 tyt typs GS FX ρ ls st fr mem env fx gh ne g lsc stc frc) (hd : dd ≤ d) (hc : cC cd y pc (.imul, nx, tg, r1, r2)) (h : a_mul rec nx y dd ls st fr mem env fx gh ne 0 (-2147483648) 2147483647 = true) : cTF G h0 n0 cn0 sn0 Q frc y d pc lsc stc g := by
  obtain ⟨b, a, r, vb, va, rc, rfl, rfl, tb, ta, hb, ha, hs, k⟩ := a_two h hγ.gs
  obtain ⟨x, rfl, hx, hxe⟩ := a_int ha ta
  obtain ⟨z, rfl, hz, hze⟩ := a_int hb tb
  refine cT_bi (F := fun x z => x * z) hG hc (fun _ _ _ _ => rfl) (fun lf sx g => d_adi_ok i32_mul nx lf sx g) (fun a b => by rw [x32, pk_mul]) ?_
  have hcI := cI_of (i32 x * i32 z)
  refine a_nr hF hrec hγ hd hs (a_mulv hγ.1 hxe hze ⟨hcI.1, by have := hcI.2; omega⟩ (fun b1 b2 => ?_) (avR_mk0 hcI) k)
  rw [i32_mul, i32_int]
  unfold cI
  omega
theorem a_mulL_ok (hG : cW sv cd mi df el eb G) (hF : aFXm FX) (hrec : aSnd G h0 n0 cn0 sn0 Q tyt typs GS FX rec) (hγ : aGm h0 tyt typs GS FX ρ ls st fr mem env fx gh ne g lsc stc frc) (hd : dd ≤ d) (hc : cC cd y pc (.lmul, nx, tg, r1, r2)) (h : a_mul rec nx y dd ls st fr mem env fx gh ne 2 (-9223372036854775808) 9223372036854775807 = true) : cTF G h0 n0 cn0 sn0 Q frc y d pc lsc stc g := by
  obtain ⟨b, a, r, vb, va, rc, rfl, rfl, tb, ta, hb, ha, hs, k⟩ := a_two h hγ.gs
  obtain ⟨x, rfl, hx, hxe⟩ := a_lngv ha ta
  obtain ⟨z, rfl, hz, hze⟩ := a_lngv hb tb
  refine cT_bl (F := fun x z => x * z) hG hc (fun _ _ _ _ => rfl) (fun lf sx g => d_adl_ok i64_mul nx lf sx g) (fun a b => lN_xnl _) ?_
  have hcI := cL_of (i64 x * i64 z)
  refine a_nr hF hrec hγ hd hs (a_mulv hγ.1 hxe hze ⟨hcI.1, by have := hcI.2; omega⟩ (fun b1 b2 => ?_) (avR_mk2 hcI) k)
  rw [i64_mul, i64_int]
  unfold cL
  omega
/-- a quotient -/
theorem a_divv {tag : Nat} {lo hi : Int} {a b : av} {r : List av} {x z n : Int} {v0 : cv} (hC : aC ne ρ (coR h0 tyt GS env fx mem gh g)) (hxe : aC ne ρ (fun τ => ev τ a.2.2 = x)) (hze : aC ne ρ (fun τ => ev τ b.2.2 = z)) (hn : lo ≤ n ∧ n ≤ hi) (hx : x ≤ hi) (hnm : 0 ≤ x → 0 < z → x.tdiv z = n) (hv : ∀ (τ : Nat → Int) (e : ae), ev τ e = n → avR tyt τ (tag, 0, e) v0)
    (k : (match ebd env fx a.2.2 with
      | none => false
      | some ia => match ebd env fx b.2.2 with
        | none => false
        | some ib => cond (zlt 0 ib.1 || zlt ib.2 0)
            (cond (zle 0 ia.1 && zlt 0 ib.1) (aany tag (Int.ediv ia.1 ib.2) (Int.ediv ia.2 ib.1) env ne (fun v env ne => rec y dd nx ls (v :: r) fr mem env fx gh ne))
              (aany tag lo hi env ne (fun v env ne => rec y dd nx ls (v :: r) fr mem env fx gh ne))) false) = true) :
    z ≠ 0 ∧ aRes h0 tyt GS env fx mem gh ne ρ g (fun v env ne => rec y dd nx ls (v :: r) fr mem env fx gh ne) v0 := by
  cases h1 : ebd env fx a.2.2 with
  | none => rw [h1] at k; cases k
  | some ia =>
    rw [h1] at k
    dsimp only at k
    cases h2 : ebd env fx b.2.2 with
    | none => rw [h2] at k; cases k
    | some ib =>
      rw [h2] at k
      dsimp only at k
      obtain ⟨k0, k⟩ := xcnb k
      have i1 := ebd_ok hC.self.1 hC.self.2.1 h1
      have i2 := ebd_ok hC.self.1 hC.self.2.1 h2
      rw [hxe.self] at i1
      rw [hze.self] at i2
      have hz0 : z ≠ 0 := by
        rcases xor2 k0 with q | q
        · have := zlt_iff.mp q; omega
        · have := zlt_iff.mp q; omega
      refine ⟨hz0, ?_⟩
      cases h3 : (zle 0 ia.1 && zlt 0 ib.1) with
      | false => rw [h3] at k; exact aany_ok hC hn hv k
      | true =>
        rw [h3] at k
        obtain ⟨h4, h5⟩ := xand h3
        have h4 := zle_iff.mp h4
        have h5 := zlt_iff.mp h5
        have e := hnm (by omega) (by omega)
        have i3 := tdiv_in i1.1 i1.2 i2.1 i2.2 h4 h5
        rw [e] at i3
        exact aany_ok hC i3 hv k
theorem a_divI_ok (hG : cW sv cd mi df el eb G) (hF : aFXm FX) (hrec : aSnd G h0 n0 cn0 sn0 Q tyt typs GS FX rec) (hγ : aGm h0 tyt typs GS FX ρ ls st fr mem env fx gh ne g lsc stc frc) (hd : dd ≤ d) (hc : cC cd y pc (.idiv, nx, tg, r1, r2)) (h : a_div rec nx y dd ls st fr mem env fx gh ne 0 (-2147483648) 2147483647 = true) : cTF G h0 n0 cn0 sn0 Q frc y d pc lsc stc g := by
  obtain ⟨b, a, r, vb, va, rc, rfl, rfl, tb, ta, hb, ha, hs, k⟩ := a_two h hγ.gs
  obtain ⟨x, rfl, hx, hxe⟩ := a_int ha ta
  obtain ⟨z, rfl, hz, hze⟩ := a_int hb tb
  have hcI := cI_of (i32 x / i32 z)
  obtain ⟨z0, hres⟩ := a_divv (v0 := (0, (i32 x / i32 z).toInt)) hγ.1 hxe hze ⟨hcI.1, by have := hcI.2; omega⟩ (by have := hx.2; omega) (fun b1 b2 => by
    rw [i32_div hx hz, i32_int]
    rw [Int.tdiv_eq_ediv_of_nonneg b1]
    have e1 : 0 ≤ x / z := Int.ediv_nonneg b1 (by omega)
    have e2 : x / z ≤ x := Int.ediv_le_self z b1
    unfold cI at *
    omega) (avR_mk0 hcI) k
  exact cT_dv (F := fun x z => x / z) hG hc (fun _ _ _ _ => rfl) (fun _ _ _ => rfl) (fun a b => nI_xnu _) hz z0 (a_nr hF hrec hγ hd hs hres)
theorem a_divL_ok (hG : cW sv cd mi df el eb G) (hF : aFXm FX) (hrec : aSnd G h0 n0 cn0 sn0 Q tyt typs GS FX rec) (hγ : aGm h0 tyt typs GS FX ρ ls st fr mem env fx gh ne g lsc stc frc) (hd : dd ≤ d) (hc : cC cd y pc (.ldiv, nx, tg, r1, r2)) (h : a_div rec nx y dd ls st fr mem env fx gh ne 2 (-9223372036854775808) 9223372036854775807 = true) : cTF G h0 n0 cn0 sn0 Q frc y d pc lsc stc g := by
  obtain ⟨b, a, r, vb, va, rc, rfl, rfl, tb, ta, hb, ha, hs, k⟩ := a_two h hγ.gs
  obtain ⟨x, rfl, hx, hxe⟩ := a_lngv ha ta
  obtain ⟨z, rfl, hz, hze⟩ := a_lngv hb tb
  have hcI := cL_of (i64 x / i64 z)
  obtain ⟨z0, hres⟩ := a_divv (v0 := (2, (i64 x / i64 z).toInt)) hγ.1 hxe hze ⟨hcI.1, by have := hcI.2; omega⟩ (by have := hx.2; omega) (fun b1 b2 => by
    rw [i64_div hx hz, i64_int]
    rw [Int.tdiv_eq_ediv_of_nonneg b1]
    have e1 : 0 ≤ x / z := Int.ediv_nonneg b1 (by omega)
    have e2 : x / z ≤ x := Int.ediv_le_self z b1
    unfold cL at *
    omega) (avR_mk2 hcI) k
  exact cT_dl (F := fun x z => x / z) hG hc (fun _ _ _ _ => rfl) (fun _ _ _ => rfl) (fun a b => lN_xnl _) hz z0 (a_nr hF hrec hγ hd hs hres)
end Snd2
end
section
/-! The step is right: rests, bits, stack, branches -/
section Snd3
variable {sv : Nat → Int32} {cd : xcd} {mi : xmi} {df : xdf} {el : Nat → Nat} {eb : Nat → List Nat} {G : xG} {h0 : xheap} {n0 : Nat} {cn0 sn0 : Nat → Nat} {Q : cg → Option cv → Prop}
variable {tyt : Lean.RArray (Nat × Nat)} {typs : Lean.RArray (Nat × aty)} {GS : gho → (Nat → Int) → cg → Prop} {FX : (Nat → Int) → Nat → cg → Prop}
variable {rec : aF} {y d dd pc nx tg r1 r2 : Nat} {ins : Instr} {ls : List (Nat × av)} {st : List av} {fr : List afr} {mem : List am} {env : aenv} {fx : List ae} {gh : List gho} {ne : Nat} {ρ : Nat → Int} {g : cg} {lsc : List (Nat × cv)} {stc : List cv} {frc : List cfr}
theorem aany_ok2 {tag : Nat} {lo hi : Int} {env : aenv} {fx : List ae} {mem : List am} {gh : List gho} {ne : Nat} {ρ : Nat → Int} {g : cg} {k : av → aenv → Nat → Bool} {v0 : cv} {z : Int} (hC : aC ne ρ (coR h0 tyt GS env fx mem gh g)) (hz : lo ≤ z ∧ z ≤ hi) (hv : ∀ (τ : Nat → Int) (x : ae), ev τ x = z → avR tyt τ (tag, 0, x) v0)
    (h : aany tag lo hi env ne k = true) : ∃ v env' ne' ρ', k v env' ne' = true ∧ ne ≤ ne' ∧ aag ne ρ ρ' ∧ aC ne' ρ' (coR h0 tyt GS env' fx mem gh g) ∧ aC ne' ρ' (fun τ => avR tyt τ v v0) ∧ aC ne' ρ' (fun τ => ev τ v.2.2 = z) := by
  unfold aany at h
  cases hf : zeq lo hi with
  | true =>
    rw [hf] at h
    simp only [cond_true] at h
    rw [zfrc_eq] at h
    have e := zeq_iff.mp hf
    have e2 : ∀ τ : Nat → Int, ev τ ((lo, []) : ae) = z := fun τ => by rw [show ev τ ((lo, []) : ae) = lo from ecst_ev τ lo]; omega
    exact ⟨_, env, ne, ρ, h, Nat.le_refl _, aag.rf ne ρ, hC, fun τ hτ => hv τ _ (e2 τ), fun τ hτ => e2 τ⟩
  | false =>
    rw [hf] at h
    simp only [cond_false] at h
    rw [zfrc_eq, zfrc_eq, afrs_eq] at h
    refine ⟨_, _, _, aup ρ ne z, h, by omega, aup_ag ρ ne z, fun τ hτ => ?_, fun τ hτ => hv τ _ (afrs_ev τ hτ), fun τ hτ => afrs_ev τ hτ⟩
    exact coR_env (hC τ (aag.tr (by omega) (aup_ag ρ ne z) hτ)) (afrs_ok (hC.imp (fun _ x => x.1)) hz.1 hz.2 τ hτ) (hC τ (aag.tr (by omega) (aup_ag ρ ne z) hτ)).2.1
theorem a_remz {a b : av} {z : Int} (hC : aC ne ρ (coR h0 tyt GS env fx mem gh g)) (hze : aC ne ρ (fun τ => ev τ b.2.2 = z)) {K : Int × Int → Int × Int → Bool}
    (k : (match ebd env fx a.2.2 with
      | none => false
      | some ia => match ebd env fx b.2.2 with
        | none => false
        | some ib => cond (zlt 0 ib.1 || zlt ib.2 0) (K ia ib) false) = true) : z ≠ 0 := by
  cases h1 : ebd env fx a.2.2 with
  | none => rw [h1] at k; cases k
  | some ia =>
    rw [h1] at k
    dsimp only at k
    cases h2 : ebd env fx b.2.2 with
    | none => rw [h2] at k; cases k
    | some ib =>
      rw [h2] at k
      obtain ⟨k0, k⟩ := xcnb k
      have i2 := ebd_ok hC.self.1 hC.self.2.1 h2
      rw [hze.self] at i2
      rcases xor2 k0 with q | q
      · have := zlt_iff.mp q; omega
      · have := zlt_iff.mp q; omega
/-- a rest, with what is known of it -/
theorem a_remv (hF : aFXm FX) (hrec : aSnd G h0 n0 cn0 sn0 Q tyt typs GS FX rec) (hγ : aGm h0 tyt typs GS FX ρ ls st fr mem env fx gh ne g lsc stc frc) (hd : dd ≤ d) {tag : Nat} {fa : Bool} {a b : av} {r : List av} {rc : List cv} {x z : Int} {v0 : cv} (hs : aC ne ρ (fun τ => stR tyt τ r rc)) (hxe : aC ne ρ (fun τ => ev τ a.2.2 = x)) (hze : aC ne ρ (fun τ => ev τ b.2.2 = z)) (hz0 : z ≠ 0) (hv : ∀ (τ : Nat → Int) (e : ae), ev τ e = x.tmod z → avR tyt τ (tag, 0, e) v0)
    (k : (match ebd env fx a.2.2 with
      | none => false
      | some ia => match ebd env fx b.2.2 with
        | none => false
        | some ib => cond (zlt 0 ib.1 || zlt ib.2 0)
            (zfrc (Int.add (cond (zlt 0 ib.1) ib.2 (Int.neg ib.1)) (-1)) (fun m => aany tag (cond (zle 0 ia.1) 0 (zmx (Int.neg m) ia.1)) (cond (zle ia.2 0) 0 (zmn m ia.2)) env ne (fun v env ne =>
              cond fa (efrc (eadc (eadd v.2.2 b.2.2 (cond (zlt 0 ib.1) (-1) 1)) 1) (fun f1 => efrc (eadc (eadd (escl v.2.2 (-1)) b.2.2 (cond (zlt 0 ib.1) (-1) 1)) 1) (fun f2 => rec y dd nx ls (v :: r) fr mem env (f1 :: f2 :: fx) gh ne)))
                (rec y dd nx ls (v :: r) fr mem env fx gh ne)))) false) = true) :
    cTF G h0 n0 cn0 sn0 Q frc y d nx lsc (v0 :: rc) g := by
  have hC := hγ.1
  cases h1 : ebd env fx a.2.2 with
  | none => rw [h1] at k; cases k
  | some ia =>
    rw [h1] at k
    dsimp only at k
    cases h2 : ebd env fx b.2.2 with
    | none => rw [h2] at k; cases k
    | some ib =>
      rw [h2] at k
      dsimp only at k
      obtain ⟨k0, k⟩ := xcnb k
      rw [zfrc_eq] at k
      have i1 := ebd_ok hC.self.1 hC.self.2.1 h1
      have i2 := ebd_ok hC.self.1 hC.self.2.1 h2
      rw [hxe.self] at i1
      rw [hze.self] at i2
      obtain ⟨t1, t2, t3, t4⟩ := tmod_in x hz0
      have hm : ∀ m, m = Int.add (cond (zlt 0 ib.1) ib.2 (Int.neg ib.1)) (-1) → -m ≤ x.tmod z ∧ x.tmod z ≤ m := by
        intro m em
        cases hb : zlt 0 ib.1 with
        | true =>
          have hb := zlt_iff.mp hb
          rw [zlt_iff.mpr hb] at em
          have em : m = ib.2 + -1 := em
          have := t3 (by omega)
          omega
        | false =>
          rw [hb] at em k0
          have hb2 := zlt_iff.mp (show zlt ib.2 0 = true from k0)
          have em : m = -ib.1 + -1 := em
          have := t4 (by omega)
          omega
      have hlo : (cond (zle 0 ia.1) 0 (zmx (Int.neg (Int.add (cond (zlt 0 ib.1) ib.2 (Int.neg ib.1)) (-1))) ia.1)) ≤ x.tmod z := by
        cases hq : zle 0 ia.1 with
        | true => have := zle_iff.mp hq; exact (t1 (by omega)).1
        | false =>
          refine zmx_of ?_ ?_
          · exact (hm _ rfl).1
          · by_cases hx : 0 ≤ x
            · have := zle_f hq; have := t1 hx; omega
            · have := t2 (by omega); omega
      have hhi : x.tmod z ≤ (cond (zle ia.2 0) 0 (zmn (Int.add (cond (zlt 0 ib.1) ib.2 (Int.neg ib.1)) (-1)) ia.2)) := by
        cases hq : zle ia.2 0 with
        | true => have := zle_iff.mp hq; exact (t2 (by omega)).2
        | false =>
          refine zmn_of ?_ ?_
          · exact (hm _ rfl).2
          · by_cases hx : 0 ≤ x
            · have := t1 hx; omega
            · have := zle_f hq; have := t2 (by omega); omega
      obtain ⟨v, env', ne', ρ', q1, q2, q3, q4, q5, q6⟩ := aany_ok2 hC ⟨hlo, hhi⟩ hv k
      cases fa with
      | false => exact a_nx hF hrec hγ.2.2.1 hγ.2.2.2 hd q1 q2 q3 q4 (hγ.gl.mono q2 q3) (fun τ hτ => ⟨q5 τ hτ, hs.mono q2 q3 τ hτ⟩) (hγ.2.1.imp (fun _ x => x.2.2))
      | true =>
        simp only [cond_true] at q1
        rw [efrc_eq, efrc_eq] at q1
        refine a_nx hF hrec hγ.2.2.1 hγ.2.2.2 hd q1 q2 q3 (fun τ hτ => ?_) (hγ.gl.mono q2 q3) (fun τ hτ => ⟨q5 τ hτ, hs.mono q2 q3 τ hτ⟩) (hγ.2.1.imp (fun _ x => x.2.2))
        have hq := q4 τ hτ
        have e1 := q6 τ hτ
        have e2 := hze.mono q2 q3 τ hτ
        refine ⟨hq.1, fun f hf => ?_, hq.2.2.1, hq.2.2.2⟩
        have hbd : x.tmod z + (cond (zlt 0 ib.1) (-1) 1) * z + 1 ≤ 0 ∧ -(x.tmod z) + (cond (zlt 0 ib.1) (-1) 1) * z + 1 ≤ 0 := by
          cases hb : zlt 0 ib.1 with
          | true =>
            have hb := zlt_iff.mp hb
            have := t3 (by omega)
            show x.tmod z + (-1) * z + 1 ≤ 0 ∧ -(x.tmod z) + (-1) * z + 1 ≤ 0
            omega
          | false =>
            rw [hb] at k0
            have hb2 := zlt_iff.mp (show zlt ib.2 0 = true from k0)
            have := t4 (by omega)
            show x.tmod z + 1 * z + 1 ≤ 0 ∧ -(x.tmod z) + 1 * z + 1 ≤ 0
            omega
        rcases List.mem_cons.mp hf with e | hf
        · rw [e, eadc_ev, eadd_ev, e1, e2]
          exact hbd.1
        · rcases List.mem_cons.mp hf with e | hf
          · rw [e, eadc_ev, eadd_ev, escl_ev, e1, e2]
            have := hbd.2
            omega
          · exact hq.2.1 f hf
theorem a_remI_ok (hG : cW sv cd mi df el eb G) (hF : aFXm FX) (hrec : aSnd G h0 n0 cn0 sn0 Q tyt typs GS FX rec) (hγ : aGm h0 tyt typs GS FX ρ ls st fr mem env fx gh ne g lsc stc frc) (hd : dd ≤ d) {fa : Bool} (hc : cC cd y pc (.irem, nx, tg, r1, r2)) (h : a_rem rec nx y dd ls st fr mem env fx gh ne 0 fa = true) : cTF G h0 n0 cn0 sn0 Q frc y d pc lsc stc g := by
  obtain ⟨b, a, r, vb, va, rc, rfl, rfl, tb, ta, hb, ha, hs, k⟩ := a_two h hγ.gs
  obtain ⟨x, rfl, hx, hxe⟩ := a_int ha ta
  obtain ⟨z, rfl, hz, hze⟩ := a_int hb tb
  have z0 := a_remz hγ.1 hze k
  have hin : cI (x.tmod z) := by rw [← i32_rem hx hz z0]; exact cI_of _
  refine cT_dv (F := fun x z => x - x / z * z) hG hc (fun _ _ _ _ => rfl) (fun _ _ _ => rfl) (fun a b => nI_xnu _) hz z0 ?_
  rw [i32_rem hx hz z0]
  exact a_remv hF hrec hγ hd hs hxe hze z0 (avR_mk0 hin) k
theorem a_remL_ok (hG : cW sv cd mi df el eb G) (hF : aFXm FX) (hrec : aSnd G h0 n0 cn0 sn0 Q tyt typs GS FX rec) (hγ : aGm h0 tyt typs GS FX ρ ls st fr mem env fx gh ne g lsc stc frc) (hd : dd ≤ d) {fa : Bool} (hc : cC cd y pc (.lrem, nx, tg, r1, r2)) (h : a_rem rec nx y dd ls st fr mem env fx gh ne 2 fa = true) : cTF G h0 n0 cn0 sn0 Q frc y d pc lsc stc g := by
  obtain ⟨b, a, r, vb, va, rc, rfl, rfl, tb, ta, hb, ha, hs, k⟩ := a_two h hγ.gs
  obtain ⟨x, rfl, hx, hxe⟩ := a_lngv ha ta
  obtain ⟨z, rfl, hz, hze⟩ := a_lngv hb tb
  have z0 := a_remz hγ.1 hze k
  have hin : cL (x.tmod z) := by rw [← i64_rem hx hz z0]; exact cL_of _
  refine cT_dl (F := fun x z => x - x / z * z) hG hc (fun _ _ _ _ => rfl) (fun _ _ _ => rfl) (fun a b => lN_xnl _) hz z0 ?_
  rw [i64_rem hx hz z0]
  exact a_remv hF hrec hγ hd hs hxe hze z0 (avR_mk2 hin) k
/-- bits -/
theorem a_bit_ok (hG : cW sv cd mi df el eb G) (hF : aFXm FX) (hrec : aSnd G h0 n0 cn0 sn0 Q tyt typs GS FX rec) (hc : cC cd y pc (ins, nx, tg, r1, r2)) (hγ : aGm h0 tyt typs GS FX ρ ls st fr mem env fx gh ne g lsc stc frc) (hd : dd ≤ d) {f : Nat → Nat → Nat} {F : Int32 → Int32 → Int32} {bd : Int × Int → Int × Int → Int × Int} {fa : Bool} (he : ∀ (rec : xF) (lx : List (Nat × xv)) (sx : List xv) (h : xheap), xex mi df el eb rec ins nx tg r1 r2 y d pc lx sx [] h n0 (cn0 y) (sn0 y) = x_bi rec nx y d lx sx [] h n0 (cn0 y) (sn0 y) f) (hdn : ∀ (lf : dlf) (sx : List cv) (g : cg), dnx h0 sv mi el eb ins nx tg r1 r2 pc lf sx g = d_bi F nx lf sx g) (hFf : ∀ a b, nI (f a b) = F (nI a) (nI b)) (hbd : ∀ (x z : Int) (ia ib : Int × Int), cI x → cI z → ia.1 ≤ x → x ≤ ia.2 → ib.1 ≤ z → z ≤ ib.2 → (bd ia ib).1 ≤ (F (i32 x) (i32 z)).toInt ∧ (F (i32 x) (i32 z)).toInt ≤ (bd ia ib).2) (hfa : fa = true → ∀ x z : Int, cI x → cI z → 0 ≤ z → (F (i32 x) (i32 z)).toInt ≤ z)
    (h : a_bit rec nx y dd ls st fr mem env fx gh ne F bd fa = true) : cTF G h0 n0 cn0 sn0 Q frc y d pc lsc stc g := by
  obtain ⟨b, a, r, vb, va, rc, rfl, rfl, tb, ta, hb, ha, hs, k⟩ := a_two h hγ.gs
  obtain ⟨x, rfl, hx, hxe⟩ := a_int ha ta
  obtain ⟨z, rfl, hz, hze⟩ := a_int hb tb
  have hcI := cI_of (F (i32 x) (i32 z))
  refine cT_bi hG hc he hdn hFf ?_
  split at k
  · rename_i na nb
    rw [zfrc_eq] at k
    have e1 : a.2.2.1 = x := by
      have := hxe.self
      have e2 : ev ρ a.2.2 = a.2.2.1 := by unfold ev; rw [na]; show _ + 0 = _; omega
      omega
    have e2 : b.2.2.1 = z := by
      have := hze.self
      have e2 : ev ρ b.2.2 = b.2.2.1 := by unfold ev; rw [nb]; show _ + 0 = _; omega
      omega
    rw [e1, e2] at k
    exact a_n0 hF hrec hγ hd k hγ.gl (fun τ hτ => ⟨avR_mk0 hcI τ _ (evc τ _), hs τ hτ⟩)
  · have hC := hγ.1
    cases h1 : ebd env fx a.2.2 with
    | none => rw [h1] at k; cases k
    | some ia =>
      rw [h1] at k
      dsimp only at k
      cases h2 : ebd env fx b.2.2 with
      | none => rw [h2] at k; cases k
      | some ib =>
        rw [h2] at k
        dsimp only at k
        rw [zfrc_eq, zfrc_eq] at k
        have i1 := ebd_ok hC.self.1 hC.self.2.1 h1
        have i2 := ebd_ok hC.self.1 hC.self.2.1 h2
        rw [hxe.self] at i1
        rw [hze.self] at i2
        obtain ⟨v, env', ne', ρ', q1, q2, q3, q4, q5, q6⟩ := aany_ok2 hC (hbd x z ia ib hx hz i1.1 i1.2 i2.1 i2.2) (avR_mk0 hcI) k
        cases hb : (fa && zle 0 ib.1) with
        | false =>
          rw [hb] at q1
          exact a_nx hF hrec hγ.2.2.1 hγ.2.2.2 hd q1 q2 q3 q4 (hγ.gl.mono q2 q3) (fun τ hτ => ⟨q5 τ hτ, hs.mono q2 q3 τ hτ⟩) (hγ.2.1.imp (fun _ x => x.2.2))
        | true =>
          rw [hb] at q1
          simp only [cond_true] at q1
          rw [efrc_eq] at q1
          obtain ⟨b1, b2⟩ := xand hb
          have b2 := zle_iff.mp b2
          refine a_nx hF hrec hγ.2.2.1 hγ.2.2.2 hd q1 q2 q3 (fun τ hτ => ?_) (hγ.gl.mono q2 q3) (fun τ hτ => ⟨q5 τ hτ, hs.mono q2 q3 τ hτ⟩) (hγ.2.1.imp (fun _ x => x.2.2))
          have hq := q4 τ hτ
          refine ⟨hq.1, fun f hf => ?_, hq.2.2.1, hq.2.2.2⟩
          rcases List.mem_cons.mp hf with e | hf
          · rw [e, eadd_ev, q6 τ hτ, hze.mono q2 q3 τ hτ]
            have := hfa b1 x z hx hz (by omega)
            omega
          · exact hq.2.1 f hf
theorem bdand_ok (x z : Int) (ia ib : Int × Int) (hx : cI x) (hz : cI z) (a1 : ia.1 ≤ x) (a2 : x ≤ ia.2) (b1 : ib.1 ≤ z) (b2 : z ≤ ib.2) : (bdand ia ib).1 ≤ (i32 x &&& i32 z).toInt ∧ (i32 x &&& i32 z).toInt ≤ (bdand ia ib).2 := by
  have full := cI_of (i32 x &&& i32 z)
  unfold bdand
  cases h1 : zle 0 ib.1 with
  | true =>
    have h1 := zle_iff.mp h1
    have r := iand_r (i32 x) hz (by omega)
    cases h2 : zle 0 ia.1 with
    | true =>
      have h2 := zle_iff.mp h2
      have l := iand_l (i32 z) hx (by omega)
      exact ⟨r.1, zmn_of (by omega) (by omega)⟩
    | false => exact ⟨r.1, by show _ ≤ ib.2; omega⟩
  | false =>
    cases h2 : zle 0 ia.1 with
    | true =>
      have h2 := zle_iff.mp h2
      have l := iand_l (i32 z) hx (by omega)
      exact ⟨l.1, by show _ ≤ ia.2; omega⟩
    | false =>
      refine ⟨full.1, ?_⟩
      have := full.2
      show _ ≤ (2147483647 : Int)
      omega
theorem bdor_ok (x z : Int) (ia ib : Int × Int) (hx : cI x) (hz : cI z) (a1 : ia.1 ≤ x) (a2 : x ≤ ia.2) (b1 : ib.1 ≤ z) (b2 : z ≤ ib.2) : (bdor ia ib).1 ≤ (i32 x ||| i32 z).toInt ∧ (i32 x ||| i32 z).toInt ≤ (bdor ia ib).2 := by
  have full := cI_of (i32 x ||| i32 z)
  unfold bdor
  cases h : (zle 0 ia.1 && zle 0 ib.1) with
  | false =>
    refine ⟨full.1, ?_⟩
    have := full.2
    show _ ≤ (2147483647 : Int)
    omega
  | true =>
    obtain ⟨h1, h2⟩ := xand h
    have h1 := zle_iff.mp h1
    have h2 := zle_iff.mp h2
    have m1 := zmx_l ia.2 ib.2
    have m2 := zmx_r ia.2 ib.2
    have hlt : (zmx ia.2 ib.2).toNat < 2 ^ (Nat.log2 (zmx ia.2 ib.2).toNat + 1) := Nat.lt_log2_self
    by_cases hk : Nat.log2 (zmx ia.2 ib.2).toNat + 1 ≤ 31
    · have key := ior_in hx hz (by omega) (by omega) (k := Nat.log2 (zmx ia.2 ib.2).toNat + 1) (by omega) (by omega) hk
      refine ⟨key.1, ?_⟩
      show _ ≤ ((2 ^ (Nat.log2 (zmx ia.2 ib.2).toNat + 1) - 1 : Nat) : Int)
      have e : ((2 ^ (Nat.log2 (zmx ia.2 ib.2).toNat + 1) : Nat) : Int) = (2 ^ (Nat.log2 (zmx ia.2 ib.2).toNat + 1) : Int) := by rw [Int.natCast_pow]; rfl
      have k2 := key.2
      rw [← e] at k2
      omega
    · have key := ior_in hx hz (by omega) (by omega) (k := 31) (by have := hx.2; omega) (by have := hz.2; omega) (Nat.le_refl _)
      refine ⟨key.1, ?_⟩
      show _ ≤ ((2 ^ (Nat.log2 (zmx ia.2 ib.2).toNat + 1) - 1 : Nat) : Int)
      have e : 2 ^ 31 ≤ 2 ^ (Nat.log2 (zmx ia.2 ib.2).toNat + 1) := Nat.pow_le_pow_right (by decide) (by omega)
      have := full.2
      omega
theorem bdshl_ok (x z : Int) (ia ib : Int × Int) (hx : cI x) (hz : cI z) (a1 : ia.1 ≤ x) (a2 : x ≤ ia.2) (b1 : ib.1 ≤ z) (b2 : z ≤ ib.2) : (bdshl ia ib).1 ≤ (i32 x <<< (i32 z &&& 31)).toInt ∧ (i32 x <<< (i32 z &&& 31)).toInt ≤ (bdshl ia ib).2 := by
  have full := cI_of (i32 x <<< (i32 z &&& 31))
  unfold bdshl
  cases h : (zle 0 ia.1 && (zle 0 ib.1 && (zle ib.2 30 && zle (Int.mul ia.2 ((2 ^ ib.2.toNat : Nat) : Int)) 2147483647))) with
  | false =>
    refine ⟨full.1, ?_⟩
    have := full.2
    show _ ≤ (2147483647 : Int)
    omega
  | true =>
    obtain ⟨h1, h⟩ := xand h
    obtain ⟨h2, h⟩ := xand h
    obtain ⟨h3, h4⟩ := xand h
    have h1 := zle_iff.mp h1
    have h2 := zle_iff.mp h2
    have h3 := zle_iff.mp h3
    have h4 : ia.2 * ((2 ^ ib.2.toNat : Nat) : Int) ≤ 2147483647 := zle_iff.mp h4
    have p1 : 2 ^ ib.1.toNat ≤ 2 ^ z.toNat := Nat.pow_le_pow_right (by decide) (by omega)
    have p2 : 2 ^ z.toNat ≤ 2 ^ ib.2.toNat := Nat.pow_le_pow_right (by decide) (by omega)
    have e : ((2 ^ z.toNat : Nat) : Int) = (2 ^ z.toNat : Int) := by rw [Int.natCast_pow]; rfl
    have q1 : x * ((2 ^ z.toNat : Nat) : Int) ≤ ia.2 * ((2 ^ ib.2.toNat : Nat) : Int) := Int.mul_le_mul a2 (Int.ofNat_le.mpr p2) (Int.natCast_nonneg _) (by omega)
    have q2 : ia.1 * ((2 ^ ib.1.toNat : Nat) : Int) ≤ x * ((2 ^ z.toNat : Nat) : Int) := Int.mul_le_mul a1 (Int.ofNat_le.mpr p1) (Int.natCast_nonneg _) (by omega)
    have key := ishl_in (x := x) (s := z) (by omega) (by omega) (by omega) (by rw [← e]; omega)
    rw [key, ← e]
    exact ⟨q2, q1⟩
theorem bdshr_ok (x z : Int) (ia ib : Int × Int) (hx : cI x) (_ : cI z) (a1 : ia.1 ≤ x) (a2 : x ≤ ia.2) (_ : ib.1 ≤ z) (_ : z ≤ ib.2) : (bdshr ia ib).1 ≤ (i32 x >>> (i32 z &&& 31)).toInt ∧ (i32 x >>> (i32 z &&& 31)).toInt ≤ (bdshr ia ib).2 := by
  obtain ⟨k1, k2, k3⟩ := ishr_in (i32 x) (i32 z &&& 31)
  rw [i32_int hx] at k1 k2 k3
  unfold bdshr
  cases h : zle 0 ia.1 with
  | true =>
    have h := zle_iff.mp h
    have := k1 (by omega)
    refine ⟨this.1, ?_⟩
    show _ ≤ ia.2
    omega
  | false =>
    have h := zle_f h
    have m1 := zmx_l ia.2 (-1)
    have m2 := zmx_r ia.2 (-1)
    show ia.1 ≤ _ ∧ _ ≤ zmx ia.2 (-1)
    by_cases h0 : 0 ≤ x
    · have := k1 h0; omega
    · have := k2 (by omega); have := k3 (by omega); omega
theorem bdful_ok (X : Int32) (ia ib : Int × Int) : (bdful ia ib).1 ≤ X.toInt ∧ X.toInt ≤ (bdful ia ib).2 := by
  have full := cI_of X
  refine ⟨full.1, ?_⟩
  have := full.2
  show _ ≤ (2147483647 : Int)
  omega
end Snd3
end
section
/-! The step is right: longs, stack, branches, switches -/
section Snd4
variable {sv : Nat → Int32} {cd : xcd} {mi : xmi} {df : xdf} {el : Nat → Nat} {eb : Nat → List Nat} {G : xG} {h0 : xheap} {n0 : Nat} {cn0 sn0 : Nat → Nat} {Q : cg → Option cv → Prop}
variable {tyt : Lean.RArray (Nat × Nat)} {typs : Lean.RArray (Nat × aty)} {GS : gho → (Nat → Int) → cg → Prop} {FX : (Nat → Int) → Nat → cg → Prop}
variable {rec : aF} {y d dd pc nx tg r1 r2 : Nat} {ins : Instr} {ls : List (Nat × av)} {st : List av} {fr : List afr} {mem : List am} {env : aenv} {fx : List ae} {gh : List gho} {ne : Nat} {ρ : Nat → Int} {g : cg} {lsc : List (Nat × cv)} {stc : List cv} {frc : List cfr}
/-- a long of which nothing is known -/
theorem a_lngn (hF : aFXm FX) (hrec : aSnd G h0 n0 cn0 sn0 Q tyt typs GS FX rec) (hγ : aGm h0 tyt typs GS FX ρ ls st fr mem env fx gh ne g lsc stc frc) (hd : dd ≤ d) {r : List av} {rc : List cv} (hs : aC ne ρ (fun τ => stR tyt τ r rc)) (X : Int64)
    (k : afrs (-9223372036854775808) 9223372036854775807 env ne (fun env' ne' => rec y dd nx ls ((2, 0, esym ne) :: r) fr mem env' fx gh ne') = true) : cTF G h0 n0 cn0 sn0 Q frc y d nx lsc ((2, X.toInt) :: rc) g := by
  rw [afrs_eq] at k
  have hcL := cL_of X
  refine a_nx hF hrec hγ.2.2.1 hγ.2.2.2 hd k (by omega) (aup_ag ρ ne X.toInt) (fun τ hτ => ?_) (hγ.gl.mono (by omega) (aup_ag ρ ne _)) (fun τ hτ => ⟨avR_mk2 hcL τ _ (afrs_ev τ hτ), hs.mono (by omega) (aup_ag ρ ne _) τ hτ⟩) (hγ.2.1.imp (fun _ x => x.2.2))
  have hτ2 : aag ne ρ τ := aag.tr (by omega) (aup_ag ρ ne _) hτ
  exact coR_env (hγ.1 τ hτ2) (afrs_ok (hγ.1.imp (fun _ x => x.1)) hcL.1 (by have := hcL.2; omega) τ hτ) (hγ.1 τ hτ2).2.1
theorem a_lngB_ok (hG : cW sv cd mi df el eb G) (hF : aFXm FX) (hrec : aSnd G h0 n0 cn0 sn0 Q tyt typs GS FX rec) (hc : cC cd y pc (ins, nx, tg, r1, r2)) (hγ : aGm h0 tyt typs GS FX ρ ls st fr mem env fx gh ne g lsc stc frc) (hd : dd ≤ d) {f : Nat → Nat → Nat} {F : Int64 → Int64 → Int64} (he : ∀ (rec : xF) (lx : List (Nat × xv)) (sx : List xv) (h : xheap), xex mi df el eb rec ins nx tg r1 r2 y d pc lx sx [] h n0 (cn0 y) (sn0 y) = x_bl rec nx y d lx sx [] h n0 (cn0 y) (sn0 y) f) (hdn : ∀ (lf : dlf) (sx : List cv) (g : cg), dnx h0 sv mi el eb ins nx tg r1 r2 pc lf sx g = d_bl F nx lf sx g) (hFf : ∀ a b, lN (f a b) = F (lN a) (lN b)) (h : a_lng rec nx y dd ls st fr mem env fx gh ne 2 = true) : cTF G h0 n0 cn0 sn0 Q frc y d pc lsc stc g := by
  obtain ⟨b, a, r, vb, va, rc, rfl, rfl, tb, ta, hb, ha, hs, k⟩ := a_two h hγ.gs
  obtain ⟨x, rfl, hx, hxe⟩ := a_lngv ha ta
  obtain ⟨z, rfl, hz, hze⟩ := a_lngv hb tb
  exact cT_bl hG hc he hdn hFf (a_lngn hF hrec hγ hd hs _ k)
theorem a_lngS_ok (hG : cW sv cd mi df el eb G) (hF : aFXm FX) (hrec : aSnd G h0 n0 cn0 sn0 Q tyt typs GS FX rec) (hc : cC cd y pc (ins, nx, tg, r1, r2)) (hγ : aGm h0 tyt typs GS FX ρ ls st fr mem env fx gh ne g lsc stc frc) (hd : dd ≤ d) {f : Nat → Nat → Nat} {F : Int64 → Int32 → Int64} (he : ∀ (rec : xF) (lx : List (Nat × xv)) (sx : List xv) (h : xheap), xex mi df el eb rec ins nx tg r1 r2 y d pc lx sx [] h n0 (cn0 y) (sn0 y) = x_sl rec nx y d lx sx [] h n0 (cn0 y) (sn0 y) f) (hdn : ∀ (lf : dlf) (sx : List cv) (g : cg), dnx h0 sv mi el eb ins nx tg r1 r2 pc lf sx g = d_sl F nx lf sx g) (hFf : ∀ a b, lN (f a b) = F (lN a) (nI b)) (h : a_lng rec nx y dd ls st fr mem env fx gh ne 0 = true) : cTF G h0 n0 cn0 sn0 Q frc y d pc lsc stc g := by
  unfold a_lng at h
  match st, hγ, h with
  | [], _, h => cases h
  | [_], _, h => cases h
  | b :: a :: r, hγ, h =>
    obtain ⟨g1, g2⟩ := xcnb h
    obtain ⟨g3, g4⟩ := xand g1
    obtain ⟨vb, rc1, rfl, hb, hs1⟩ := a_top hγ.gs
    obtain ⟨va, rc, rfl, ha, hs2⟩ := a_top hs1
    obtain ⟨x, rfl, hx, hxe⟩ := a_lngv ha (xeqb g4)
    obtain ⟨z, rfl, hz, hze⟩ := a_int hb (xeqb g3)
    exact cT_sl hG hc he hdn hFf (a_lngn hF hrec hγ hd hs2 _ g2)
/-- one operand -/
theorem a_one {t1 : Nat} {k : av → List av → Bool} (h : (match st with
    | a :: r => cond (Nat.beq a.1 t1) (k a r) false
    | _ => false) = true) (hs : aC ne ρ (fun τ => stR tyt τ st stc)) : ∃ a r va rc, st = a :: r ∧ stc = va :: rc ∧ a.1 = t1 ∧ aC ne ρ (fun τ => avR tyt τ a va) ∧ aC ne ρ (fun τ => stR tyt τ r rc) ∧ k a r = true := by
  match st, hs, h with
  | [], _, h => cases h
  | a :: r, hs, h =>
    obtain ⟨g1, g2⟩ := xcnb h
    obtain ⟨va, rc, rfl, ha, hs2⟩ := a_top hs
    exact ⟨a, r, va, rc, rfl, rfl, xeqb g1, ha, hs2, g2⟩
theorem a_cnvI_ok (hG : cW sv cd mi df el eb G) (hF : aFXm FX) (hrec : aSnd G h0 n0 cn0 sn0 Q tyt typs GS FX rec) (hc : cC cd y pc (ins, nx, tg, r1, r2)) (hγ : aGm h0 tyt typs GS FX ρ ls st fr mem env fx gh ne g lsc stc frc) (hd : dd ≤ d) {f : Nat → Nat} {F : Int32 → Int32} {lo hi s : Int} (he : ∀ (rec : xF) (lx : List (Nat × xv)) (sx : List xv) (h : xheap), xex mi df el eb rec ins nx tg r1 r2 y d pc lx sx [] h n0 (cn0 y) (sn0 y) = x_ui rec nx y d lx sx [] h n0 (cn0 y) (sn0 y) f) (hdn : ∀ (lf : dlf) (sx : List cv) (g : cg), dnx h0 sv mi el eb ins nx tg r1 r2 pc lf sx g = d_ui F nx lf sx g) (hFf : ∀ a, nI (f a) = F (nI a)) (hin : ∀ X, lo ≤ (F X).toInt ∧ (F X).toInt ≤ hi) (hid : ∀ x, cI x → lo ≤ s * x → s * x ≤ hi → (F (i32 x)).toInt = s * x) (h : a_cnv rec nx y dd ls st fr mem env fx gh ne 0 0 lo hi s = true) : cTF G h0 n0 cn0 sn0 Q frc y d pc lsc stc g := by
  obtain ⟨a, r, va, rc, rfl, rfl, ta, ha, hs, k⟩ := a_one h hγ.gs
  obtain ⟨x, rfl, hx, hxe⟩ := a_int ha ta
  rw [efrc_eq] at k
  refine cT_ui hG hc he hdn hFf (a_nr hF hrec hγ hd hs (aar_ok hγ.1 (hin (i32 x)) (fun τ hτ b1 b2 => ?_) (avR_mk0 (cI_of _)) k))
  rw [escl_ev, hxe τ hτ] at b1 b2 ⊢
  exact (hid x hx b1 b2).symm
theorem a_l2i_ok (hG : cW sv cd mi df el eb G) (hF : aFXm FX) (hrec : aSnd G h0 n0 cn0 sn0 Q tyt typs GS FX rec) (hγ : aGm h0 tyt typs GS FX ρ ls st fr mem env fx gh ne g lsc stc frc) (hd : dd ≤ d) (hc : cC cd y pc (.l2i, nx, tg, r1, r2)) (h : a_cnv rec nx y dd ls st fr mem env fx gh ne 2 0 (-2147483648) 2147483647 1 = true) : cTF G h0 n0 cn0 sn0 Q frc y d pc lsc stc g := by
  obtain ⟨a, r, va, rc, rfl, rfl, ta, ha, hs, k⟩ := a_one h hγ.gs
  obtain ⟨x, rfl, hx, hxe⟩ := a_lngv ha ta
  rw [efrc_eq] at k
  have hcI := cI_of (i64 x).toInt32
  refine cT_l2i hG hc (a_nr hF hrec hγ hd hs (aar_ok hγ.1 ⟨hcI.1, by have := hcI.2; omega⟩ (fun τ hτ b1 b2 => ?_) (avR_mk0 hcI) k))
  rw [escl_ev, hxe τ hτ] at b1 b2 ⊢
  rw [i64_i32 (by unfold cI; omega)]
  omega
theorem a_i2l_ok (hG : cW sv cd mi df el eb G) (hF : aFXm FX) (hrec : aSnd G h0 n0 cn0 sn0 Q tyt typs GS FX rec) (hγ : aGm h0 tyt typs GS FX ρ ls st fr mem env fx gh ne g lsc stc frc) (hd : dd ≤ d) (hc : cC cd y pc (.i2l, nx, tg, r1, r2)) (h : a_i2l rec nx y dd ls st fr mem env fx gh ne = true) : cTF G h0 n0 cn0 sn0 Q frc y d pc lsc stc g := by
  obtain ⟨a, r, va, rc, rfl, rfl, ta, ha, hs, k⟩ := a_one h hγ.gs
  obtain ⟨x, rfl, hx, hxe⟩ := a_int ha ta
  refine cT_i2l hG hc hx (a_n0 hF hrec hγ hd k hγ.gl (fun τ hτ => ⟨avR_mk2 ?_ τ _ (hxe τ hτ), hs τ hτ⟩))
  unfold cI at hx
  unfold cL
  omega
theorem a_dup_ok (hG : cW sv cd mi df el eb G) (hF : aFXm FX) (hrec : aSnd G h0 n0 cn0 sn0 Q tyt typs GS FX rec) (hγ : aGm h0 tyt typs GS FX ρ ls st fr mem env fx gh ne g lsc stc frc) (hd : dd ≤ d) (hc : cC cd y pc (.dup, nx, tg, r1, r2)) (h : a_dup rec nx y dd ls st fr mem env fx gh ne = true) : cTF G h0 n0 cn0 sn0 Q frc y d pc lsc stc g := by
  unfold a_dup at h
  match st, hγ, h with
  | [], _, h => cases h
  | a :: r, hγ, h =>
    dsimp only at h
    obtain ⟨v, rc, rfl, hv, hr⟩ := a_top hγ.gs
    cases hb : Nat.beq (xkd a.1) 1 with
    | true => rw [hb] at h; cases h
    | false =>
      rw [hb] at h
      exact cT_dup hG hc (by rw [avR_kd hv.self]; exact hb) (a_n0 hF hrec hγ hd h hγ.gl (fun τ hτ => ⟨hv τ hτ, hv τ hτ, hr τ hτ⟩))
theorem a_pop_ok (hG : cW sv cd mi df el eb G) (hF : aFXm FX) (hrec : aSnd G h0 n0 cn0 sn0 Q tyt typs GS FX rec) (hγ : aGm h0 tyt typs GS FX ρ ls st fr mem env fx gh ne g lsc stc frc) (hd : dd ≤ d) (hc : cC cd y pc (.pop, nx, tg, r1, r2)) (h : a_pop rec nx y dd ls st fr mem env fx gh ne = true) : cTF G h0 n0 cn0 sn0 Q frc y d pc lsc stc g := by
  unfold a_pop at h
  match st, hγ, h with
  | [], _, h => cases h
  | a :: r, hγ, h =>
    dsimp only at h
    obtain ⟨v, rc, rfl, hv, hr⟩ := a_top hγ.gs
    cases hb : Nat.beq (xkd a.1) 1 with
    | true => rw [hb] at h; cases h
    | false =>
      rw [hb] at h
      exact cT_pop hG hc (by rw [avR_kd hv.self]; exact hb) (a_n0 hF hrec hγ hd h hγ.gl hr)
theorem a_pop2_ok (hG : cW sv cd mi df el eb G) (hF : aFXm FX) (hrec : aSnd G h0 n0 cn0 sn0 Q tyt typs GS FX rec) (hγ : aGm h0 tyt typs GS FX ρ ls st fr mem env fx gh ne g lsc stc frc) (hd : dd ≤ d) (hc : cC cd y pc (.pop2, nx, tg, r1, r2)) (h : a_pop2 rec nx y dd ls st fr mem env fx gh ne = true) : cTF G h0 n0 cn0 sn0 Q frc y d pc lsc stc g := by
  unfold a_pop2 at h
  match st, hγ, h with
  | [], _, h => cases h
  | a :: r, hγ, h =>
    dsimp only at h
    obtain ⟨v, rc, rfl, hv, hr⟩ := a_top hγ.gs
    cases hb : Nat.beq (xkd a.1) 1 with
    | false => rw [hb] at h; cases h
    | true =>
      rw [hb] at h
      exact cT_pop2 hG hc (by rw [avR_kd hv.self]; exact hb) (a_n0 hF hrec hγ hd h hγ.gl hr)
theorem a_dup2_ok (hG : cW sv cd mi df el eb G) (hF : aFXm FX) (hrec : aSnd G h0 n0 cn0 sn0 Q tyt typs GS FX rec) (hγ : aGm h0 tyt typs GS FX ρ ls st fr mem env fx gh ne g lsc stc frc) (hd : dd ≤ d) (hc : cC cd y pc (.dup2, nx, tg, r1, r2)) (h : a_dup2 rec nx y dd ls st fr mem env fx gh ne = true) : cTF G h0 n0 cn0 sn0 Q frc y d pc lsc stc g := by
  unfold a_dup2 at h
  match st, hγ, h with
  | [], _, h => cases h
  | a :: r, hγ, h =>
    dsimp only at h
    obtain ⟨v, rc, rfl, hv, hr⟩ := a_top hγ.gs
    cases hb : Nat.beq (xkd a.1) 1 with
    | true =>
      rw [hb] at h
      exact cT_dup2L hG hc (by rw [avR_kd hv.self]; exact hb) (a_n0 hF hrec hγ hd h hγ.gl (fun τ hτ => ⟨hv τ hτ, hv τ hτ, hr τ hτ⟩))
    | false =>
      rw [hb] at h
      simp only [cond_false] at h
      match r, hr, h with
      | [], _, h => cases h
      | b :: r', hr, h =>
        dsimp only at h
        obtain ⟨w, rc', rfl, hw, hr'⟩ := a_top hr
        cases hb2 : Nat.beq (xkd b.1) 1 with
        | true => rw [hb2] at h; cases h
        | false =>
          rw [hb2] at h
          exact cT_dup2 hG hc (by rw [avR_kd hv.self]; exact hb) (by rw [avR_kd hw.self]; exact hb2) (a_n0 hF hrec hγ hd h hγ.gl (fun τ hτ => ⟨hv τ hτ, hw τ hτ, hv τ hτ, hw τ hτ, hr' τ hτ⟩))
theorem a_goto_ok (hG : cW sv cd mi df el eb G) (hF : aFXm FX) (hrec : aSnd G h0 n0 cn0 sn0 Q tyt typs GS FX rec) (hγ : aGm h0 tyt typs GS FX ρ ls st fr mem env fx gh ne g lsc stc frc) (hd : dd ≤ d) {o : Int} (hc : cC cd y pc (.goto o, nx, tg, r1, r2)) (h : rec y dd tg ls st fr mem env fx gh ne = true) : cTF G h0 n0 cn0 sn0 Q frc y d pc lsc stc g :=
  cT_goto hG hc (a_n0 hF hrec hγ hd h hγ.gl hγ.gs)
/-- a condition that holds: where it leads -/
theorem a_cg (hF : aFXm FX) (hrec : aSnd G h0 n0 cn0 sn0 Q tyt typs GS FX rec) (hγ : aGm h0 tyt typs GS FX ρ ls st fr mem env fx gh ne g lsc stc frc) (hd : dd ≤ d) {r : List av} {rc : List cv} (hs : aC ne ρ (fun τ => stR tyt τ r rc)) {sp : Bool} {o : Jvm.ClassFile.Cond} {e : ae} {z : Int} {pc' : Nat} (hz : aC ne ρ (fun τ => ev τ e = z)) (ho : crel o z 0 = true)
    (k : acn2 sp o env fx e (fun env fx => rec y dd pc' ls r fr mem env fx gh ne) = true) : cTF G h0 n0 cn0 sn0 Q frc y d pc' lsc rc g := by
  obtain ⟨env', fx', k1, k2⟩ := acn2_ok (P := aag ne ρ) ⟨ρ, aag.rf ne ρ⟩ k hz (fun τ hτ => ⟨(hγ.1 τ hτ).1, (hγ.1 τ hτ).2.1⟩) ho
  exact a_nx hF hrec hγ.2.2.1 hγ.2.2.2 hd k1 (Nat.le_refl _) (aag.rf _ _) (fun τ hτ => coR_env (hγ.1 τ hτ) (k2 τ hτ).1 (k2 τ hτ).2) hγ.gl hs (hγ.2.1.imp (fun _ x => x.2.2))
theorem a_brv (hF : aFXm FX) (hrec : aSnd G h0 n0 cn0 sn0 Q tyt typs GS FX rec) (hγ : aGm h0 tyt typs GS FX ρ ls st fr mem env fx gh ne g lsc stc frc) (hd : dd ≤ d) {r : List av} {rc : List cv} (hs : aC ne ρ (fun τ => stR tyt τ r rc)) {sp : Bool} {o : Jvm.ClassFile.Cond} {e : ae} {z : Int} (hz : aC ne ρ (fun τ => ev τ e = z))
    (k : a_br rec nx tg y dd ls fr mem env fx gh ne sp o e r = true) : cTF G h0 n0 cn0 sn0 Q frc y d (cond (crel o z 0) tg nx) lsc rc g := by
  obtain ⟨k1, k2⟩ := xcnb k
  cases hb : crel o z 0 with
  | true => exact a_cg hF hrec hγ hd hs hz hb k1
  | false => exact a_cg hF hrec hγ hd hs hz (by rw [crel_neg, hb]; rfl) k2
theorem a_icmp_ok (hG : cW sv cd mi df el eb G) (hF : aFXm FX) (hrec : aSnd G h0 n0 cn0 sn0 Q tyt typs GS FX rec) (hγ : aGm h0 tyt typs GS FX ρ ls st fr mem env fx gh ne g lsc stc frc) (hd : dd ≤ d) {sp : Bool} {o : Jvm.ClassFile.Cond} {w : Int} (hc : cC cd y pc (.if_icmp o w, nx, tg, r1, r2)) (h : a_icmp rec nx tg y dd ls st fr mem env fx gh ne sp o = true) : cTF G h0 n0 cn0 sn0 Q frc y d pc lsc stc g := by
  obtain ⟨b, a, r, vb, va, rc, rfl, rfl, tb, ta, hb, ha, hs, k⟩ := a_two h hγ.gs
  obtain ⟨x, rfl, hx, hxe⟩ := a_int ha ta
  obtain ⟨z, rfl, hz, hze⟩ := a_int hb tb
  rw [efrc_eq] at k
  refine cT_icmp hG hc hx hz ?_
  rw [crel_sub]
  exact a_brv hF hrec hγ hd hs (fun τ hτ => by show ev τ _ = _; rw [eadd_ev, hxe τ hτ, hze τ hτ]; omega) k
theorem a_if_ok (hG : cW sv cd mi df el eb G) (hF : aFXm FX) (hrec : aSnd G h0 n0 cn0 sn0 Q tyt typs GS FX rec) (hγ : aGm h0 tyt typs GS FX ρ ls st fr mem env fx gh ne g lsc stc frc) (hd : dd ≤ d) {sp : Bool} {o : Jvm.ClassFile.Cond} {w : Int} (hc : cC cd y pc (.ifCond o w, nx, tg, r1, r2)) (h : a_if rec nx tg y dd ls st fr mem env fx gh ne sp o = true) : cTF G h0 n0 cn0 sn0 Q frc y d pc lsc stc g := by
  unfold a_if at h
  match st, hγ, h with
  | [], _, h => cases h
  | a :: r, hγ, h =>
    obtain ⟨g1, g2⟩ := xcnb h
    obtain ⟨v, rc, rfl, hv, hr⟩ := a_top hγ.gs
    rcases xor2 g1 with q | q
    · obtain ⟨x, rfl, hx, hxe⟩ := a_int hv (xeqb q)
      exact cT_if hG hc hx (a_brv hF hrec hγ hd hr hxe g2)
    · have e1 := avR_cmp hv.self (xeqb q)
      subst e1
      have hI : cI (csgn (ev ρ a.2.2)) := by unfold csgn cI; split <;> first | omega | (split <;> omega)
      have hk : crel o (csgn (ev ρ a.2.2)) 0 = crel o (ev ρ a.2.2) 0 := crel_sgn o _
      refine cT_if hG hc hI ?_
      obtain ⟨k1, k2⟩ := xcnb g2
      have go : ∀ (o2 : Jvm.ClassFile.Cond) (pc' : Nat), crel o2 (csgn (ev ρ a.2.2)) 0 = true → acn2 sp o2 env fx a.2.2 (fun env fx => rec y dd pc' ls r fr mem env fx gh ne) = true → cTF G h0 n0 cn0 sn0 Q frc y d pc' lsc rc g := by
        intro o2 pc' ho hk2
        have hall : ∀ τ, aag ne ρ τ → crel o2 (ev τ a.2.2) 0 = true := fun τ hτ => by
          have e2 := avR_cmp (hv τ hτ) (xeqb q)
          have e3 : csgn (ev ρ a.2.2) = csgn (ev τ a.2.2) := congrArg Prod.snd e2
          rw [← crel_sgn, ← e3]; exact ho
        have hR : ∀ τ, aag ne ρ τ → envR env τ ∧ fxR fx τ := fun τ hτ => ⟨(hγ.1 τ hτ).1, (hγ.1 τ hτ).2.1⟩
        have fin : ∀ o3 : Jvm.ClassFile.Cond, (∀ τ, aag ne ρ τ → crel o3 (ev τ a.2.2) 0 = true) → acnd o3 env fx a.2.2 (fun env fx => rec y dd pc' ls r fr mem env fx gh ne) = true → cTF G h0 n0 cn0 sn0 Q frc y d pc' lsc rc g := by
          intro o3 h3 h4
          obtain ⟨env', fx', m1, m2⟩ := acnd_ok (P := aag ne ρ) ⟨ρ, aag.rf ne ρ⟩ h4 (fun τ hτ => ⟨(hR τ hτ).1, (hR τ hτ).2, h3 τ hτ⟩)
          exact a_nx hF hrec hγ.2.2.1 hγ.2.2.2 hd m1 (Nat.le_refl _) (aag.rf _ _) (fun τ hτ => coR_env (hγ.1 τ hτ) (m2 τ hτ).1 (m2 τ hτ).2) hγ.gl hr (hγ.2.1.imp (fun _ x => x.2.2))
        unfold acn2 at hk2
        split at hk2
        · obtain ⟨l1, l2⟩ := xcnb hk2
          have same : ∀ τ, aag ne ρ τ → csgn (ev τ a.2.2) = csgn (ev ρ a.2.2) := fun τ hτ => (congrArg Prod.snd (avR_cmp (hv τ hτ) (xeqb q))).symm
          by_cases hn : csgn (ev ρ a.2.2) < 0
          · refine fin .lt (fun τ hτ => ?_) l1
            rw [← crel_sgn, same τ hτ]
            exact decide_eq_true hn
          · refine fin .gt (fun τ hτ => ?_) l2
            rw [← crel_sgn, same τ hτ]
            have : csgn (ev ρ a.2.2) ≠ 0 := of_decide_eq_true ho
            exact decide_eq_true (show 0 < csgn (ev ρ a.2.2) by omega)
        · exact fin o2 hall hk2
      cases hb : crel o (csgn (ev ρ a.2.2)) 0 with
      | true => exact go o tg hb k1
      | false => exact go (aneg o) nx (by rw [crel_neg, hb]; rfl) k2
theorem a_nul_ok (hG : cW sv cd mi df el eb G) (hF : aFXm FX) (hrec : aSnd G h0 n0 cn0 sn0 Q tyt typs GS FX rec) (hc : cC cd y pc (ins, nx, tg, r1, r2)) (hγ : aGm h0 tyt typs GS FX ρ ls st fr mem env fx gh ne g lsc stc frc) (hd : dd ≤ d) {t : Bool} (he : ∀ (rec : xF) (lx : List (Nat × xv)) (sx : List xv) (h : xheap), xex mi df el eb rec ins nx tg r1 r2 y d pc lx sx [] h n0 (cn0 y) (sn0 y) = x_nul rec nx tg y d lx sx [] h n0 (cn0 y) (sn0 y) t) (hdn : ∀ (lf : dlf) (sx : List cv) (g : cg), dnx h0 sv mi el eb ins nx tg r1 r2 pc lf sx g = d_nul nx tg t lf sx g) (h : a_nul rec nx tg y dd ls st fr mem env fx gh ne t = true) : cTF G h0 n0 cn0 sn0 Q frc y d pc lsc stc g := by
  unfold a_nul at h
  match st, hγ, h with
  | [], _, h => cases h
  | a :: r, hγ, h =>
    dsimp only at h
    obtain ⟨v, rc, rfl, hv, hr⟩ := a_top hγ.gs
    split at h
    · rename_i e
      exact cT_nul hG hc he hdn (Or.inl ⟨avR_kd2 hv.self e (by decide), rfl⟩) (a_n0 hF hrec hγ hd h hγ.gl hr)
    · rename_i e
      exact cT_nul hG hc he hdn (Or.inr ⟨avR_kd2 hv.self e (by decide), rfl⟩) (a_n0 hF hrec hγ hd h hγ.gl hr)
    · cases h
theorem a_lcmp_ok (hG : cW sv cd mi df el eb G) (hF : aFXm FX) (hrec : aSnd G h0 n0 cn0 sn0 Q tyt typs GS FX rec) (hγ : aGm h0 tyt typs GS FX ρ ls st fr mem env fx gh ne g lsc stc frc) (hd : dd ≤ d) (hc : cC cd y pc (.lcmp, nx, tg, r1, r2)) (h : a_lcmp rec nx y dd ls st fr mem env fx gh ne = true) : cTF G h0 n0 cn0 sn0 Q frc y d pc lsc stc g := by
  obtain ⟨b, a, r, vb, va, rc, rfl, rfl, tb, ta, hb, ha, hs, k⟩ := a_two h hγ.gs
  obtain ⟨x, rfl, hx, hxe⟩ := a_lngv ha ta
  obtain ⟨z, rfl, hz, hze⟩ := a_lngv hb tb
  rw [efrc_eq] at k
  refine cT_lcmp hG hc hx hz (a_n0 hF hrec hγ hd k hγ.gl (fun τ hτ => ⟨?_, hs τ hτ⟩))
  show (0, csgn (x - z)) = (0, csgn (ev τ (eadd a.2.2 b.2.2 (-1))))
  rw [eadd_ev, hxe τ hτ, hze τ hτ]
  congr 2
  omega
/-- one key that is met -/
theorem a_eqg (hF : aFXm FX) (hrec : aSnd G h0 n0 cn0 sn0 Q tyt typs GS FX rec) (hγ : aGm h0 tyt typs GS FX ρ ls st fr mem env fx gh ne g lsc stc frc) (hd : dd ≤ d) {r : List av} {rc : List cv} (hs : aC ne ρ (fun τ => stR tyt τ r rc)) {o : Jvm.ClassFile.Cond} {e : ae} {z v : Int} {pc' : Nat} (hz : aC ne ρ (fun τ => ev τ e = z)) (ho : crel o (z - v) 0 = true)
    (k : efrc (eadc e (Int.neg v)) (fun x => acnd o env fx x (fun env fx => rec y dd pc' ls r fr mem env fx gh ne)) = true) : cTF G h0 n0 cn0 sn0 Q frc y d pc' lsc rc g := by
  rw [efrc_eq] at k
  refine a_cg (sp := false) (o := o) (e := eadc e (Int.neg v)) (z := z - v) hF hrec hγ hd hs (fun τ hτ => by show ev τ _ = _; rw [eadc_ev, hz τ hτ]; show z + -v = _; omega) ho ?_
  unfold acn2
  cases o <;> exact k
theorem atab_ok (hF : aFXm FX) (hrec : aSnd G h0 n0 cn0 sn0 Q tyt typs GS FX rec) (hγ : aGm h0 tyt typs GS FX ρ ls st fr mem env fx gh ne g lsc stc frc) (hd : dd ≤ d) {r : List av} {rc : List cv} (hs : aC ne ρ (fun τ => stR tyt τ r rc)) {e : ae} {z : Int} (hz : aC ne ρ (fun τ => ev τ e = z)) : ∀ (l : List Int) (v : Int), atab rec y dd pc ls fr mem env fx gh ne e r l v = true → ∀ i : Nat, z = v + (i : Int) → i < l.length → ∃ o, l[i]? = some o ∧ 0 ≤ (pc : Int) + o ∧ cTF G h0 n0 cn0 sn0 Q frc y d ((pc : Int) + o).toNat lsc rc g
  | [], _, _, i, _, hi => absurd hi (Nat.not_lt_zero i)
  | o :: l, v, h, i, hzi, hi => by
    unfold atab at h
    obtain ⟨h1, h2⟩ := xcnb h
    obtain ⟨h3, h4⟩ := xcnb h1
    rw [zfrc_eq] at h2
    cases i with
    | zero =>
      exact ⟨o, rfl, zle_iff.mp h3, a_eqg (o := .eq) hF hrec hγ hd hs hz (decide_eq_true (by omega)) h4⟩
    | succ i =>
      obtain ⟨o2, q1, q2, q3⟩ := atab_ok hF hrec hγ hd hs hz l (Int.add v 1) h2 i (by show z = v + 1 + (i : Int); omega) (by simp at hi; omega)
      exact ⟨o2, q1, q2, q3⟩
theorem a_tab_ok (hG : cW sv cd mi df el eb G) (hF : aFXm FX) (hrec : aSnd G h0 n0 cn0 sn0 Q tyt typs GS FX rec) (hγ : aGm h0 tyt typs GS FX ρ ls st fr mem env fx gh ne g lsc stc frc) (hd : dd ≤ d) {a b e : Int} {f : Array Int} (hc : cC cd y pc (.tableswitch a b e f, nx, tg, r1, r2)) (h : a_tab rec y dd pc ls st fr mem env fx gh ne a b e f = true) : cTF G h0 n0 cn0 sn0 Q frc y d pc lsc stc g := by
  unfold a_tab at h
  match st, hγ, h with
  | [], _, h => cases h
  | w :: r, hγ, h =>
    obtain ⟨g1, g2⟩ := xcnb h
    obtain ⟨g3, g4⟩ := xand g1
    obtain ⟨g5, g6⟩ := xand g3
    obtain ⟨g7, g8⟩ := xcnb g2
    obtain ⟨g9, g10⟩ := xcnb g8
    have g4 : e + 1 + -b = (f.size : Int) := zeq_iff.mp g4
    have g6 : 0 ≤ (pc : Int) + a := zle_iff.mp g6
    obtain ⟨v, rc, rfl, hv, hr⟩ := a_top hγ.gs
    obtain ⟨z, rfl, hz, hze⟩ := a_int hv (xeqb g5)
    by_cases h1 : z < b
    · refine cT_tab (t := ((pc : Int) + a).toNat) hG hc hz (by unfold xts; rw [if_pos (Or.inl h1), if_pos g6]) ?_
      exact a_eqg (o := .lt) hF hrec hγ hd hr hze (decide_eq_true (by omega)) g7
    · by_cases h2 : e < z
      · refine cT_tab (t := ((pc : Int) + a).toNat) hG hc hz (by unfold xts; rw [if_pos (Or.inr h2), if_pos g6]) ?_
        exact a_eqg (o := .gt) hF hrec hγ hd hr hze (decide_eq_true (by omega)) g9
      · obtain ⟨o, q1, q2, q3⟩ := atab_ok hF hrec hγ hd hr hze f.toList b g10 (z - b).toNat (by omega) (by rw [Array.length_toList]; omega)
        refine cT_tab (t := ((pc : Int) + o).toNat) hG hc hz ?_ q3
        unfold xts
        rw [if_neg (by omega)]
        rw [Array.getElem?_toList] at q1
        rw [q1]
        dsimp only
        rw [if_pos q2]
theorem alkp_ok (hF : aFXm FX) (hrec : aSnd G h0 n0 cn0 sn0 Q tyt typs GS FX rec) (hd : dd ≤ d) {r : List av} {rc : List cv} {e : ae} {z dflt : Int} : ∀ (l : List (Int × Int)) (env : aenv) (fx : List ae), alkp rec y dd pc ls fr mem gh ne e r dflt l env fx = true → aGm h0 tyt typs GS FX ρ ls st fr mem env fx gh ne g lsc stc frc → aC ne ρ (fun τ => stR tyt τ r rc) → aC ne ρ (fun τ => ev τ e = z) → 0 ≤ (pc : Int) + Op.lookupswitch.offset l dflt z ∧ cTF G h0 n0 cn0 sn0 Q frc y d ((pc : Int) + Op.lookupswitch.offset l dflt z).toNat lsc rc g
  | [], env, fx, h, hγ, hs, hz => by
    obtain ⟨h1, h2⟩ := xcnb (show cond (zle 0 (Int.add (pc : Int) dflt)) (rec y dd (Int.add (pc : Int) dflt).toNat ls r fr mem env fx gh ne) false = true from h)
    exact ⟨zle_iff.mp h1, a_n0 hF hrec hγ hd h2 hγ.gl hs⟩
  | q :: l, env, fx, h, hγ, hs, hz => by
    unfold alkp at h
    rw [efrc_eq] at h
    obtain ⟨h1, h2⟩ := xcnb h
    obtain ⟨h3, h4⟩ := xcnb h1
    obtain ⟨h5, h6⟩ := xcnb h2
    obtain ⟨k, o⟩ := q
    rw [Op.lookupswitch.offset_cons]
    have hev : ∀ τ, aag ne ρ τ → ev τ (eadc e (Int.neg k)) = z - k := fun τ hτ => by rw [eadc_ev, hz τ hτ]; show z + -k = _; omega
    by_cases hk : k = z
    · rw [if_pos hk]
      exact ⟨zle_iff.mp h3, a_cg (sp := false) (o := .eq) (z := z - k) hF hrec hγ hd hs hev (decide_eq_true (by omega)) h4⟩
    · rw [if_neg hk]
      have go : ∀ o2 : Jvm.ClassFile.Cond, crel o2 (z - k) 0 = true → acnd o2 env fx (eadc e (Int.neg k)) (fun env fx => alkp rec y dd pc ls fr mem gh ne e r dflt l env fx) = true → 0 ≤ (pc : Int) + Op.lookupswitch.offset l dflt z ∧ cTF G h0 n0 cn0 sn0 Q frc y d ((pc : Int) + Op.lookupswitch.offset l dflt z).toNat lsc rc g := by
        intro o2 m1 m2
        obtain ⟨env', fx', k1, k2⟩ := acnd_ok (P := aag ne ρ) ⟨ρ, aag.rf ne ρ⟩ m2 (fun τ hτ => ⟨(hγ.1 τ hτ).1, (hγ.1 τ hτ).2.1, by rw [hev τ hτ]; exact m1⟩)
        exact alkp_ok hF hrec hd l env' fx' k1 ⟨fun τ hτ => coR_env (hγ.1 τ hτ) (k2 τ hτ).1 (k2 τ hτ).2, hγ.2.1, hγ.2.2.1, hγ.2.2.2⟩ hs hz
      by_cases hl : z < k
      · exact go .lt (decide_eq_true (by omega)) h5
      · exact go .gt (decide_eq_true (by omega)) h6
theorem a_lkp_ok (hG : cW sv cd mi df el eb G) (hF : aFXm FX) (hrec : aSnd G h0 n0 cn0 sn0 Q tyt typs GS FX rec) (hγ : aGm h0 tyt typs GS FX ρ ls st fr mem env fx gh ne g lsc stc frc) (hd : dd ≤ d) {a : Int} {f : Array (Int × Int)} (hc : cC cd y pc (.lookupswitch a f, nx, tg, r1, r2)) (h : a_lkp rec y dd pc ls st fr mem env fx gh ne a f = true) : cTF G h0 n0 cn0 sn0 Q frc y d pc lsc stc g := by
  unfold a_lkp at h
  obtain ⟨w, r, v, rc, rfl, rfl, tw, hv, hr, k⟩ := a_one h hγ.gs
  obtain ⟨z, rfl, hz, hze⟩ := a_int hv tw
  obtain ⟨k1, k2⟩ := alkp_ok hF hrec hd f.toList env fx k hγ hr hze
  exact cT_lkp hG hc hz k1 k2
end Snd4
end
