/-! Values, places, what is known of them -/
abbrev av : Type := Nat × Nat × ae
abbrev am : Type := Nat × ae × ae × av
abbrev gho : Type := Nat × Nat × Nat × ae
abbrev acol : Type := Int × Int × Int × Int × Int
/-- kind, length, least and greatest cell, columns, tags and types of the places -/
abbrev aty : Type := Nat × Nat × (Int × Int) × List (Int × Int × List acol) × List (Nat × Nat)
def aag (ne : Nat) (ρ ρ' : Nat → Int) : Prop := ∀ s : Nat, s < ne → ρ' s = ρ s
/-- for all that agree below ne -/
def aC (ne : Nat) (ρ : Nat → Int) (X : (Nat → Int) → Prop) : Prop := ∀ ρ' : Nat → Int, aag ne ρ ρ' → X ρ'
theorem aag.rf (ne : Nat) (ρ : Nat → Int) : aag ne ρ ρ := fun _ _ => rfl
theorem aag.tr {n m : Nat} {a b c : Nat → Int} (hnm : n ≤ m) (h1 : aag n a b) (h2 : aag m b c) : aag n a c := fun s hs => (h2 s (Nat.lt_of_lt_of_le hs hnm)).trans (h1 s hs)
theorem aC.self {ne : Nat} {ρ : Nat → Int} {X : (Nat → Int) → Prop} (h : aC ne ρ X) : X ρ := h ρ (aag.rf ne ρ)
theorem aC.mono {ne ne' : Nat} {ρ ρ' : Nat → Int} {X : (Nat → Int) → Prop} (h : aC ne ρ X) (hn : ne ≤ ne') (ha : aag ne ρ ρ') : aC ne' ρ' X := fun τ ht => h τ (aag.tr hn ha ht)
theorem aC.imp {ne : Nat} {ρ : Nat → Int} {X Y : (Nat → Int) → Prop} (h : aC ne ρ X) (k : ∀ ρ', X ρ' → Y ρ') : aC ne ρ Y := fun τ ht => k τ (h τ ht)
theorem aC.and {ne : Nat} {ρ : Nat → Int} {X Y : (Nat → Int) → Prop} (h : aC ne ρ X) (k : aC ne ρ Y) : aC ne ρ (fun r => X r ∧ Y r) := fun τ ht => ⟨h τ ht, k τ ht⟩
def aup (ρ : Nat → Int) (s : Nat) (z : Int) : Nat → Int := fun t => if t = s then z else ρ t
theorem aup_ag (ρ : Nat → Int) (s : Nat) (z : Int) : aag s ρ (aup ρ s z) := fun t ht => by unfold aup; rw [if_neg (by omega)]
theorem aup_self (ρ : Nat → Int) (s : Nat) (z : Int) : aup ρ s z s = z := by unfold aup; rw [if_pos rfl]
/-- a new symbol -/
noncomputable def afrs (lo hi : Int) (env : aenv) (ne : Nat) (k : aenv → Nat → Bool) : Bool := xsK env ne (some (lo, hi)) (fun env' => xfrc (ne + 1) (fun n => k env' n))
theorem afrs_eq (lo hi : Int) (env : aenv) (ne : Nat) (k : aenv → Nat → Bool) : afrs lo hi env ne k = k (xw env ne (some (lo, hi))) (ne + 1) := by unfold afrs; rw [xsK_eq, xfrc_eq]
theorem afrs_ok {lo hi z : Int} {env : aenv} {ne : Nat} {ρ : Nat → Int} (h : aC ne ρ (envR env)) (h1 : lo ≤ z) (h2 : z ≤ hi) : aC (ne + 1) (aup ρ ne z) (envR (xw env ne (some (lo, hi)))) := by
  intro τ ht
  have e : τ ne = z := by rw [ht ne (by omega), aup_self]
  exact envR_set (h τ (aag.tr (by omega) (aup_ag ρ ne z) ht)) (by rw [e]; exact h1) (by rw [e]; exact h2)
theorem afrs_ev {z : Int} {ne : Nat} {ρ : Nat → Int} : aC (ne + 1) (aup ρ ne z) (fun τ => ev τ (esym ne) = z) := fun τ ht => by show ev τ (esym ne) = z; rw [esym_ev, ht ne (by omega), aup_self]
section World
variable (h0 : xheap) (tyt : Lean.RArray (Nat × Nat)) (typs : Lean.RArray (Nat × aty))
def agt {α : Type} : List α → Nat → Option α
  | [], _ => none
  | q :: _, 0 => some q
  | _ :: l, n + 1 => agt l n
def apl (T : aty) (j : Nat) : Option (Nat × Nat) := cond (Nat.blt T.1 13) (agt T.2.2.2.2 j) (agt T.2.2.2.2 0)
/-- the types are right -/
def aWd : Prop := ∀ (k t : Nat), xg tyt k = some t → ∃ (q : xcell) (T : aty), xg h0 k = some q ∧ xg typs t = some T ∧ T.1 = q.1 ∧ T.2.1 = q.2.1 ∧ q.2.1 < 2147483648 ∧ T.2.2.1.1 ≤ (k : Int) ∧ (k : Int) ≤ T.2.2.1.2 ∧
  ∀ j : Nat, j < q.2.1 → ∃ (w : xv) (u : Nat × Nat), xg q.2.2 j = some w ∧ apl T j = some u ∧ w.1 = u.1 ∧ (u.1 = 0 ∨ u.1 = 2 ∨ (u.1 = 4 ∧ xg tyt w.2 = some u.2))
/-- what lies at a place -/
def cat (g : cg) (k j : Nat) (v : cv) : Prop := ∃ (q : xcell) (w : xv), xg h0 k = some q ∧ xg q.2.2 j = some w ∧ v = cval w (g k j)
theorem cat_inj {g : cg} {k j : Nat} {v v' : cv} (h : cat h0 g k j v) (h' : cat h0 g k j v') : v = v' := by
  obtain ⟨q, w, a1, a2, a3⟩ := h
  obtain ⟨q', w', b1, b2, b3⟩ := h'
  have e1 : q = q' := Option.some.inj (a1.symm.trans b1)
  subst e1
  have e2 : w = w' := Option.some.inj (a2.symm.trans b2)
  subst e2
  rw [a3, b3]
/-- the columns hold -/
def acv (c : acol) (j : Nat) : Prop := c.1 ≤ (j : Int) ∧ (j : Int) ≤ c.2.1 ∧ ((j : Int) - c.1) % c.2.2.1 = 0
def aInv (g : cg) : Prop := ∀ (k t : Nat) (T : aty), xg tyt k = some t → xg typs t = some T → (∀ b ∈ T.2.2.2.1, ∀ c ∈ b.2.2, ∀ j : Nat, b.1 ≤ (j : Int) → (j : Int) ≤ b.2.1 → acv c j → c.2.2.2.1 ≤ g k j ∧ g k j ≤ c.2.2.2.2) ∧ ∀ (j : Nat) (u : Nat × Nat), j < T.2.1 → apl T j = some u → (u.1 = 0 → cI (g k j)) ∧ (u.1 = 2 → cL (g k j))
/-- a value -/
def avR (ρ : Nat → Int) (a : av) (v : cv) : Prop :=
  match a.1 with
  | 0 => v = (0, ev ρ a.2.2) ∧ cI (ev ρ a.2.2)
  | 2 => v = (2, ev ρ a.2.2) ∧ cL (ev ρ a.2.2)
  | 4 => ∃ k : Nat, v = (4, (k : Int)) ∧ ev ρ a.2.2 = (k : Int) ∧ xg tyt k = some a.2.1
  | 5 => v = (5, 0)
  | 6 => v = (6, (a.2.1 : Int))
  | 9 => v = (0, csgn (ev ρ a.2.2))
  | 10 => v = (10, 0)
  | _ => False
def amR (ρ : Nat → Int) (g : cg) (m : am) : Prop := ∃ (k j : Nat) (v : cv), ev ρ m.2.1 = (k : Int) ∧ ev ρ m.2.2.1 = (j : Int) ∧ xg tyt k = some m.1 ∧ cat h0 g k j v ∧ avR tyt ρ m.2.2.2 v
def amsR (ρ : Nat → Int) (g : cg) (mem : List am) : Prop := ∀ m ∈ mem, amR h0 tyt ρ g m
end World
/-! equal, surely different -/
def leqb : List (Nat × Int) → List (Nat × Int) → Bool
  | [], [] => true
  | q :: l, r :: m => cond (Nat.beq q.1 r.1) (cond (zeq q.2 r.2) (leqb l m) false) false
  | [], _ :: _ => false
  | _ :: _, [] => false
theorem leqb_ok : ∀ {a b : List (Nat × Int)}, leqb a b = true → a = b
  | [], [], _ => rfl
  | (s, c) :: l, (t, d) :: m, h => by
    obtain ⟨h1, h2⟩ := xcnb (show cond (Nat.beq s t) (cond (zeq c d) (leqb l m) false) false = true from h)
    obtain ⟨h3, h4⟩ := xcnb h2
    rw [xeqb h1, zeq_iff.mp h3, leqb_ok h4]
  | [], _ :: _, h => by cases h
  | _ :: _, [], h => by cases h
def eeqb (a b : ae) : Bool := cond (zeq a.1 b.1) (leqb a.2 b.2) false
theorem eeqb_ok {a b : ae} (h : eeqb a b = true) : a = b := by
  obtain ⟨h1, h2⟩ := xcnb h
  obtain ⟨x, y⟩ := a
  obtain ⟨z, w⟩ := b
  have e1 : x = z := zeq_iff.mp h1
  have e2 : y = w := leqb_ok h2
  rw [e1, e2]
/-- the same value, whatever the symbols -/
noncomputable def eeq (env : aenv) (a b : ae) : Bool := cond (eeqb a b) true (match (enor env (eadd a b (-1))).2 with
  | [] => zeq (enor env (eadd a b (-1))).1 0
  | _ => false)
theorem eeq_ok {env : aenv} {ρ : Nat → Int} (hE : envR env ρ) {a b : ae} (h : eeq env a b = true) : ev ρ a = ev ρ b := by
  unfold eeq at h
  rcases xcnt h with h | h
  · rw [eeqb_ok h]
  · split at h
    · rename_i hn
      have e1 := enor_ok hE (eadd a b (-1))
      rw [eadd_ev] at e1
      have e2 : ev ρ (enor env (eadd a b (-1))) = (enor env (eadd a b (-1))).1 := by unfold ev; rw [hn]; show _ + 0 = _; omega
      have e3 := zeq_iff.mp h
      omega
    · cases h
def zgcd (l : List (Nat × Int)) : Nat := match l with
  | [] => 0
  | q :: l => Nat.gcd q.2.natAbs (zgcd l)
theorem zgcd_ok (ρ : Nat → Int) : ∀ l : List (Nat × Int), ((zgcd l : Nat) : Int) ∣ evl ρ l
  | [] => Int.dvd_zero _
  | q :: l => by
    have h1 : ((Nat.gcd q.2.natAbs (zgcd l) : Nat) : Int) ∣ q.2 := Int.dvd_natAbs.mp (Int.natCast_dvd_natCast.mpr (Nat.gcd_dvd_left _ _))
    have h2 : ((Nat.gcd q.2.natAbs (zgcd l) : Nat) : Int) ∣ evl ρ l := Int.dvd_trans (Int.natCast_dvd_natCast.mpr (Nat.gcd_dvd_right _ _)) (zgcd_ok ρ l)
    exact Int.dvd_add (Int.dvd_trans h1 (Int.dvd_mul_right _ _)) h2
noncomputable def enei (env : aenv) (d : ae) : Bool := match d.2 with
  | [] => !(zeq d.1 0)
  | _ => cond (match eu env d with
      | none => false
      | some u => zlt u 0) true (cond (efrc (escl d (-1)) (fun n => match eu env n with
        | none => false
        | some u => zlt u 0)) true (!(zeq (Int.emod d.1 (zgcd d.2 : Int)) 0)))
noncomputable def ene (env : aenv) (a b : ae) : Bool := efrc (enor env (eadd a b (-1))) (fun d => enei env d)
theorem ene_ok {env : aenv} {ρ : Nat → Int} (hE : envR env ρ) {a b : ae} (h : ene env a b = true) : ev ρ a ≠ ev ρ b := by
  unfold ene at h
  rw [efrc_eq] at h
  have e1 := enor_ok hE (eadd a b (-1))
  rw [eadd_ev] at e1
  generalize enor env (eadd a b (-1)) = d at h e1
  have key : ev ρ d ≠ 0 := by
    unfold enei at h
    split at h
    · rename_i hn
      intro z
      have e2 : ev ρ d = d.1 := by unfold ev; rw [hn]; show _ + 0 = _; omega
      have : d.1 = 0 := by omega
      rw [zeq_iff.mpr this] at h
      cases h
    · rcases xcnt h with h | h
      · cases hu : eu env d with
        | none => rw [hu] at h; cases h
        | some u =>
          rw [hu] at h
          have := eu_ok hE hu
          have := zlt_iff.mp h
          omega
      · rcases xcnt h with h | h
        · rw [efrc_eq] at h
          cases hu : eu env (escl d (-1)) with
          | none => rw [hu] at h; cases h
          | some u =>
            rw [hu] at h
            have := eu_ok hE hu
            rw [escl_ev] at this
            have := zlt_iff.mp h
            omega
        · intro z
          have hd := zgcd_ok ρ d.2
          have h3 : ((zgcd d.2 : Nat) : Int) ∣ d.1 := by
            have e2 : d.1 = -(evl ρ d.2) := by have : ev ρ d = d.1 + evl ρ d.2 := rfl; omega
            rw [e2]
            exact Int.dvd_neg.mpr hd
          have h4 : Int.emod d.1 (zgcd d.2 : Int) = 0 := Int.emod_eq_zero_of_dvd h3
          rw [zeq_iff.mpr h4] at h
          cases h
  omega
/-! places -/
/-- where t, c, i is known -/
noncomputable def amg (env : aenv) (t : Nat) (c i : ae) : List am → Option av
  | [] => none
  | m :: l => cond (Nat.beq m.1 t) (cond (eeq env m.2.1 c) (cond (eeq env m.2.2.1 i) (some m.2.2.2) (amg env t c i l)) (amg env t c i l)) (amg env t c i l)
theorem amg_ok {h0 : xheap} {tyt : Lean.RArray (Nat × Nat)} {env : aenv} {ρ : Nat → Int} {g : cg} (hE : envR env ρ) {t : Nat} {c i : ae} : ∀ {mem : List am} {v : av}, amsR h0 tyt ρ g mem → amg env t c i mem = some v → ∃ (k j : Nat) (w : cv), ev ρ c = (k : Int) ∧ ev ρ i = (j : Int) ∧ cat h0 g k j w ∧ avR tyt ρ v w
  | [], _, _, h => by cases h
  | m :: l, v, hm, h => by
    have hl : amsR h0 tyt ρ g l := fun x hx => hm x (List.mem_cons_of_mem _ hx)
    have h : cond (Nat.beq m.1 t) (cond (eeq env m.2.1 c) (cond (eeq env m.2.2.1 i) (some m.2.2.2) (amg env t c i l)) (amg env t c i l)) (amg env t c i l) = some v := h
    cases h1 : Nat.beq m.1 t with
    | false => rw [h1] at h; exact amg_ok hE hl h
    | true =>
      rw [h1] at h
      cases h2 : eeq env m.2.1 c with
      | false => rw [h2] at h; exact amg_ok hE hl h
      | true =>
        rw [h2] at h
        cases h3 : eeq env m.2.2.1 i with
        | false => rw [h3] at h; exact amg_ok hE hl h
        | true =>
          rw [h3] at h
          have e : m.2.2.2 = v := Option.some.inj h
          obtain ⟨k, j, w, a1, a2, a3, a4, a5⟩ := hm m List.mem_cons_self
          exact ⟨k, j, w, by rw [← eeq_ok hE h2]; exact a1, by rw [← eeq_ok hE h3]; exact a2, a4, by rw [← e]; exact a5⟩
/-- what a store at t, c, i leaves -/
noncomputable def amk (env : aenv) (t : Nat) (c i : ae) : List am → (List am → Bool) → Bool
  | [], k => k []
  | m :: l, k => cond (cond (Nat.beq m.1 t) (cond (Nat.beq m.2.2.2.1 4) true (cond (ene env m.2.2.1 i) true (ene env m.2.1 c))) true) (amk env t c i l (fun r => k (m :: r))) (amk env t c i l k)
theorem amk_ok (env : aenv) (t : Nat) (c i : ae) : ∀ (mem : List am) (k : List am → Bool), ∃ r, amk env t c i mem k = k r ∧ ∀ m ∈ r, m ∈ mem ∧ (cond (Nat.beq m.1 t) (cond (Nat.beq m.2.2.2.1 4) true (cond (ene env m.2.2.1 i) true (ene env m.2.1 c))) true) = true
  | [], k => ⟨[], rfl, fun _ h => absurd h List.not_mem_nil⟩
  | m :: l, k => by
    unfold amk
    cases hb : (cond (Nat.beq m.1 t) (cond (Nat.beq m.2.2.2.1 4) true (cond (ene env m.2.2.1 i) true (ene env m.2.1 c))) true) with
    | true =>
      obtain ⟨r, h1, h2⟩ := amk_ok env t c i l (fun r => k (m :: r))
      refine ⟨m :: r, h1, fun x hx => ?_⟩
      rcases List.mem_cons.mp hx with e | hx
      · rw [e]; exact ⟨List.mem_cons_self, hb⟩
      · exact ⟨List.mem_cons_of_mem _ (h2 x hx).1, (h2 x hx).2⟩
    | false =>
      obtain ⟨r, h1, h2⟩ := amk_ok env t c i l k
      exact ⟨r, h1, fun x hx => ⟨List.mem_cons_of_mem _ (h2 x hx).1, (h2 x hx).2⟩⟩
theorem cval_ref {w : xv} {z z' : Int} (h : (cval w z).1 = 4) : cval w z' = cval w z := by
  obtain ⟨t, n⟩ := w
  match t, h with
  | 0, h => cases h
  | 1, _ => rfl
  | 2, h => cases h
  | _ + 3, _ => rfl
/-- a place that is kept behind a store of a number -/
theorem amR_keep {h0 : xheap} {tyt : Lean.RArray (Nat × Nat)} {env : aenv} {ρ : Nat → Int} {g : cg} (hE : envR env ρ) {t k j : Nat} {c i : ae} {z : Int} (hc : ev ρ c = (k : Int)) (hi : ev ρ i = (j : Int)) (ht : xg tyt k = some t) {m : am} (hm : amR h0 tyt ρ g m)
    (hk : (cond (Nat.beq m.1 t) (cond (Nat.beq m.2.2.2.1 4) true (cond (ene env m.2.2.1 i) true (ene env m.2.1 c))) true) = true) : amR h0 tyt ρ (cup g k j z) m := by
  obtain ⟨k', j', v, a1, a2, a3, ⟨q, w, b1, b2, b3⟩, a5⟩ := hm
  by_cases hs : k' = k ∧ j' = j
  · obtain ⟨e1, e2⟩ := hs
    subst e1; subst e2
    have e3 : m.1 = t := Option.some.inj (a3.symm.trans ht)
    rw [xnb1 e3] at hk
    simp only [cond_true] at hk
    rcases xcnt hk with hk | hk
    · have h4 : m.2.2.2.1 = 4 := xeqb hk
      have hv : v.1 = 4 := by
        unfold avR at a5
        rw [h4] at a5
        obtain ⟨kk, e, -⟩ := a5
        rw [e]
      rw [b3] at hv
      refine ⟨k', j', v, a1, a2, a3, ⟨q, w, b1, b2, ?_⟩, a5⟩
      rw [b3]
      exact (cval_ref hv).symm
    · rcases xcnt hk with hk | hk
      · exact absurd (a2.trans hi.symm) (ene_ok hE hk)
      · exact absurd (a1.trans hc.symm) (ene_ok hE hk)
  · refine ⟨k', j', v, a1, a2, a3, ⟨q, w, b1, b2, ?_⟩, a5⟩
    unfold cup
    rw [if_neg hs]
    exact b3
