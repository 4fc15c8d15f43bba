/-! Ghosts of runs (kinds from 70 on) beside the others -/
section J
variable {XG : Nat → Nat → Nat → Int → cg → Prop} {sv : Nat → Int32} {el : Nat → Nat} {h0 : xheap} {tyt : Lean.RArray (Nat × Nat)} {fam : Lean.RArray (Nat × afam)} {AT : Nat} {π : Int}
def gGJ (XG : Nat → Nat → Nat → Int → cg → Prop) (fam : Lean.RArray (Nat × afam)) (AT : Nat) (π : Int) (k a b : Nat) (E : Int) (g : cg) : Prop := match Nat.ble 70 k with
  | true => XG k a b E g
  | false => gGH fam AT π k a b E g
def jf (gh : List gho) : List gho := gh.filter (fun x => !(Nat.ble 70 x.1))
theorem jf_lt {x : gho} {gh : List gho} (h : x ∈ jf gh) : x ∈ gh ∧ Nat.ble 70 x.1 = false := by
  obtain ⟨h1, h2⟩ := List.mem_filter.mp h
  refine ⟨h1, ?_⟩
  cases hb : Nat.ble 70 x.1 with
  | false => rfl
  | true => rw [hb] at h2; cases h2
theorem aGSd_j {x : gho} {ρ : Nat → Int} {g : cg} (h : Nat.ble 70 x.1 = false) : aGSd sv el (gGJ XG fam AT π) x ρ g ↔ aGSd sv el (gGH fam AT π) x ρ g := by
  obtain ⟨k, a, b, e⟩ := x
  have h : Nat.ble 70 k = false := h
  unfold aGSd
  dsimp only
  split
  · exact Iff.rfl
  · exact Iff.rfl
  · unfold gGJ
    rw [h]
theorem aGSd_x {x : gho} {ρ : Nat → Int} {g : cg} (h : Nat.ble 70 x.1 = true) : aGSd sv el (gGJ XG fam AT π) x ρ g ↔ XG x.1 x.2.1 x.2.2.1 (ev ρ x.2.2.2) g := by
  obtain ⟨k, a, b, e⟩ := x
  have h : Nat.ble 70 k = true := h
  unfold aGSd
  dsimp only
  split
  · cases h
  · cases h
  · unfold gGJ
    rw [h]
theorem coR_j {env : aenv} {fx : List ae} {mem : List am} {gh : List gho} {g : cg} {ρ : Nat → Int} (h : coR h0 tyt (aGSd sv el (gGJ XG fam AT π)) env fx mem gh g ρ) : coR h0 tyt (aGSd sv el (gGH fam AT π)) env fx mem (jf gh) g ρ :=
  ⟨h.1, h.2.1, h.2.2.1, fun x hx => (aGSd_j (jf_lt hx).2).mp (h.2.2.2 x (jf_lt hx).1)⟩
theorem ghR_j {gh : List gho} {g : cg} {ρ : Nat → Int} (h : ghR (aGSd sv el (gGH fam AT π)) gh ρ g) : ghR (aGSd sv el (gGJ XG fam AT π)) (jf gh) ρ g :=
  fun x hx => (aGSd_j (jf_lt hx).2).mpr (h x (jf_lt hx).1)
noncomputable def jHK (HK : aenv → List ae → List am → List gho → Nat → ae → ae → Int × Int → Int × Int) (env : aenv) (fx : List ae) (mem : List am) (gh : List gho) (t : Nat) (c i : ae) (b : Int × Int) : Int × Int := HK env fx mem (jf gh) t c i b
theorem jHK_ok {HK} (h : aHK h0 tyt (aGSd sv el (gGH fam AT π)) HK) : aHK h0 tyt (aGSd sv el (gGJ XG fam AT π)) (jHK HK) :=
  fun env fx mem gh g ρ t c i b k j hC => h env fx mem (jf gh) g ρ t c i b k j (coR_j hC)
/-- kind 70 of more is kind 70 of less -/
def x70 (XG : Nat → Nat → Nat → Int → cg → Prop) : Prop := (∀ (a b a' b' : Nat) (E E' : Int) (g : cg), XG 70 a b E g → E' ≤ E → XG 70 a' b' E' g) ∧ ∀ (a b : Nat) (E : Int) (g g' : cg), XG 70 a b E g → g' 2 = g 2 → g' 89 = g 89 → g' 259 = g 259 → XG 70 a b E g'
/-- the type is the tape's, or the keys' -/
noncomputable def jty (tyt : Lean.RArray (Nat × Nat)) (t : Nat) : Bool := cond (xtq tyt 2 t) true (cond (xtq tyt 89 t) true (xtq tyt 259 t))
theorem jty_ok {t k : Nat} (h : jty tyt t = false) (hk : xg tyt k = some t) : k ≠ 2 ∧ k ≠ 89 ∧ k ≠ 259 := by
  refine ⟨fun e => ?_, fun e => ?_, fun e => ?_⟩
  · rw [e] at hk
    unfold jty at h
    rw [xtq_ok hk] at h
    cases h
  · rw [e] at hk
    unfold jty at h
    rw [xtq_ok hk] at h
    cases hb : xtq tyt 2 t <;> rw [hb] at h <;> cases h
  · rw [e] at hk
    unfold jty at h
    rw [xtq_ok hk] at h
    cases hb : xtq tyt 2 t <;> rw [hb] at h
    · cases hc : xtq tyt 89 t <;> rw [hc] at h <;> cases h
    · cases h
noncomputable def jkp (tyt : Lean.RArray (Nat × Nat)) (t : Nat) (gh : List gho) : List gho := cond (jty tyt t) [] (gh.filter (fun x => Nat.beq x.1 70))
theorem jkp_ok (hX : x70 XG) {env : aenv} {fx : List ae} {mem : List am} {gh : List gho} {g g' : cg} {ρ : Nat → Int} {t k : Nat} (hC : coR h0 tyt (aGSd sv el (gGJ XG fam AT π)) env fx mem gh g ρ) (hk : xg tyt k = some t) (hg : ∀ k' : Nat, k' ≠ k → g' k' = g k') : ghR (aGSd sv el (gGJ XG fam AT π)) (jkp tyt t gh) ρ g' := by
  intro x hx
  unfold jkp at hx
  cases hb : jty tyt t with
  | true => rw [hb] at hx; exact absurd hx List.not_mem_nil
  | false =>
    rw [hb] at hx
    obtain ⟨n1, n2, n3⟩ := jty_ok hb hk
    obtain ⟨x1, x2⟩ := List.mem_filter.mp hx
    have ex : x.1 = 70 := xeqb x2
    have hy := hC.2.2.2 x x1
    rw [aGSd_x (by rw [ex]; rfl), ex] at hy
    rw [aGSd_x (by rw [ex]; rfl), ex]
    exact hX.2 _ _ _ g g' hy (hg 2 (Ne.symm n1)) (hg 89 (Ne.symm n2)) (hg 259 (Ne.symm n3))
noncomputable def jHS (tyt : Lean.RArray (Nat × Nat)) (HS : aenv → List ae → List am → List gho → Nat → ae → ae → av → List gho) (env : aenv) (fx : List ae) (mem : List am) (gh : List gho) (t : Nat) (c i : ae) (v : av) : List gho := jkp tyt t gh ++ jf (HS env fx mem (jf gh) t c i v)
theorem jHS_ok (hX : x70 XG) {HS} (h : aHS h0 tyt (aGSd sv el (gGH fam AT π)) HS) : aHS h0 tyt (aGSd sv el (gGJ XG fam AT π)) (jHS tyt HS) := by
  intro env fx mem gh g ρ t c i v k j hC h1 h2 h3 h4 x hx
  rcases List.mem_append.mp hx with hx | hx
  · exact jkp_ok hX hC h3 (fun k' hk' => funext fun j' => by
      unfold cup
      rw [if_neg (fun e => hk' e.1)]) x hx
  · exact ghR_j (h env fx mem (jf gh) g ρ t c i v k j (coR_j hC) h1 h2 h3 h4) x hx
noncomputable def jHA (tyt : Lean.RArray (Nat × Nat)) (HA : aenv → List ae → List am → List gho → Nat → ae → Nat → ae → ae → ae → ae → List gho) (env : aenv) (fx : List ae) (mem : List am) (gh : List gho) (ta : Nat) (ca : ae) (tb : Nat) (cb sp dp m : ae) : List gho := jkp tyt tb gh ++ jf (HA env fx mem (jf gh) ta ca tb cb sp dp m)
theorem jHA_ok (hX : x70 XG) {HA} (h : aHA h0 tyt (aGSd sv el (gGH fam AT π)) HA) : aHA h0 tyt (aGSd sv el (gGJ XG fam AT π)) (jHA tyt HA) := by
  intro env fx mem gh g ρ ta ca tb cb sp dp m ka kb s d n hC h1 h2 h3 h4 h5 h6 h7 x hx
  rcases List.mem_append.mp hx with hx | hx
  · exact jkp_ok hX hC h4 (fun k' hk' => funext fun j' => by
      unfold ccp
      rw [if_neg (fun e => hk' e.1)]) x hx
  · exact ghR_j (h env fx mem (jf gh) g ρ ta ca tb cb sp dp m ka kb s d n (coR_j hC) h1 h2 h3 h4 h5 h6 h7) x hx
noncomputable def jHH (HH : aenv → List ae → List am → List gho → gho → Bool) (env : aenv) (fx : List ae) (mem : List am) (gh : List gho) (x : gho) : Bool := cond (Nat.ble 70 x.1) (cond (Nat.beq x.1 70) (gh.any (fun y => cond (Nat.beq y.1 70) (elef env fx 2 (eadd x.2.2.2 y.2.2.2 (-1))) false)) false) (HH env fx mem (jf gh) x)
theorem jHH_ok (hX : x70 XG) {HH} (h : aHH h0 tyt (aGSd sv el (gGH fam AT π)) HH) : aHH h0 tyt (aGSd sv el (gGJ XG fam AT π)) (jHH HH) := by
  intro env fx mem gh x g ρ hh hC
  unfold jHH at hh
  cases hb : Nat.ble 70 x.1 with
  | false =>
    rw [hb] at hh
    exact (aGSd_j hb).mpr (h env fx mem (jf gh) x g ρ hh (coR_j hC))
  | true =>
    rw [hb] at hh
    obtain ⟨h1, h2⟩ := xcnb (show cond (Nat.beq x.1 70) _ false = true from hh)
    obtain ⟨y, hy, h3⟩ := List.any_eq_true.mp h2
    obtain ⟨h4, h5⟩ := xcnb h3
    have h6 := elef_ok hC.1 hC.2.1 2 _ h5
    rw [eadd_ev] at h6
    have hy2 := hC.2.2.2 y hy
    have ex : x.1 = 70 := xeqb h1
    have ey : y.1 = 70 := xeqb h4
    rw [aGSd_x (by rw [ey]; rfl), ey] at hy2
    rw [aGSd_x hb, ex]
    exact hX.1 _ _ _ _ _ _ _ hy2 (by omega)
noncomputable def jHW (tyt : Lean.RArray (Nat × Nat)) (HW : aenv → List ae → List am → List gho → List awr → List gho) (env : aenv) (fx : List ae) (mem : List am) (gh : List gho) (wr : List awr) : List gho := cond (cond (xrw tyt wr 2) (cond (xrw tyt wr 89) (xrw tyt wr 259) false) false) (gh.filter (fun x => Nat.beq x.1 70)) [] ++ jf (HW env fx mem (jf gh) wr)
theorem jHW_ok (hX : x70 XG) {HW} (h : aHW h0 tyt (aGSd sv el (gGH fam AT π)) HW) : aHW h0 tyt (aGSd sv el (gGJ XG fam AT π)) (jHW tyt HW) := by
  intro env fx mem gh wr g g' ρ hC hg x hx
  rcases List.mem_append.mp hx with hx | hx
  · cases hb : cond (xrw tyt wr 2) (cond (xrw tyt wr 89) (xrw tyt wr 259) false) false with
    | false => rw [hb] at hx; exact absurd hx List.not_mem_nil
    | true =>
      rw [hb] at hx
      obtain ⟨b1, b2⟩ := xcnb hb
      obtain ⟨b2, b3⟩ := xcnb b2
      obtain ⟨x1, x2⟩ := List.mem_filter.mp hx
      have ex : x.1 = 70 := xeqb x2
      have hy := hC.2.2.2 x x1
      rw [aGSd_x (by rw [ex]; rfl), ex] at hy
      rw [aGSd_x (by rw [ex]; rfl), ex]
      exact hX.2 _ _ _ g g' hy (funext fun j => hg 2 j (xrw_ok b1 j)) (funext fun j => hg 89 j (xrw_ok b2 j)) (funext fun j => hg 259 j (xrw_ok b3 j))
  · exact ghR_j (h env fx mem (jf gh) wr g g' ρ (coR_j hC) hg) x hx
end J
