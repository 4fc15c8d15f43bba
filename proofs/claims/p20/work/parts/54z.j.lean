/-! Ghosts of runs (kinds from 70 on) beside the others -/
section J
variable {XG : Nat → Nat → Nat → Int → cg → Prop} {sv : Nat → Int32} {el : Nat → Nat} {h0 : xheap} {tyt : Lean.RArray (Nat × Nat)} {fam : Lean.RArray (Nat × afam)} {AT : Nat} {π : Int}
def gGJ (XG : Nat → Nat → Nat → Int → cg → Prop) (fam : Lean.RArray (Nat × afam)) (AT : Nat) (π : Int) (k a b : Nat) (E : Int) (g : cg) : Prop := match Nat.ble 70 k with
  | true => XG k a b E g
  | false => gGH fam AT π k a b E g
def jf (gh : List gho) : List gho := gh.filter (fun x => !(Nat.ble 70 x.1))
theorem jf_lt {x : gho} {gh : List gho} (h : x ∈ jf gh) : x ∈ gh ∧ Nat.ble 70 x.1 = false := by
  obtain ⟨h1, h2⟩ := List.mem_filter.mp h
  refine ⟨h1, ?_⟩
  cases hb : Nat.ble 70 x.1 with
  | false => rfl
  | true => rw [hb] at h2; cases h2
theorem aGSd_j {x : gho} {ρ : Nat → Int} {g : cg} (h : Nat.ble 70 x.1 = false) : aGSd sv el (gGJ XG fam AT π) x ρ g ↔ aGSd sv el (gGH fam AT π) x ρ g := by
  obtain ⟨k, a, b, e⟩ := x
  have h : Nat.ble 70 k = false := h
  unfold aGSd
  dsimp only
  split
  · exact Iff.rfl
  · exact Iff.rfl
  · unfold gGJ
    rw [h]
theorem aGSd_x {x : gho} {ρ : Nat → Int} {g : cg} (h : Nat.ble 70 x.1 = true) : aGSd sv el (gGJ XG fam AT π) x ρ g ↔ XG x.1 x.2.1 x.2.2.1 (ev ρ x.2.2.2) g := by
  obtain ⟨k, a, b, e⟩ := x
  have h : Nat.ble 70 k = true := h
  unfold aGSd
  dsimp only
  split
  · cases h
  · cases h
  · unfold gGJ
    rw [h]
theorem coR_j {env : aenv} {fx : List ae} {mem : List am} {gh : List gho} {g : cg} {ρ : Nat → Int} (h : coR h0 tyt (aGSd sv el (gGJ XG fam AT π)) env fx mem gh g ρ) : coR h0 tyt (aGSd sv el (gGH fam AT π)) env fx mem (jf gh) g ρ :=
  ⟨h.1, h.2.1, h.2.2.1, fun x hx => (aGSd_j (jf_lt hx).2).mp (h.2.2.2 x (jf_lt hx).1)⟩
theorem ghR_j {gh : List gho} {g : cg} {ρ : Nat → Int} (h : ghR (aGSd sv el (gGH fam AT π)) gh ρ g) : ghR (aGSd sv el (gGJ XG fam AT π)) (jf gh) ρ g :=
  fun x hx => (aGSd_j (jf_lt hx).2).mpr (h x (jf_lt hx).1)
noncomputable def jHK (HK : aenv → List ae → List am → List gho → Nat → ae → ae → Int × Int → Int × Int) (env : aenv) (fx : List ae) (mem : List am) (gh : List gho) (t : Nat) (c i : ae) (b : Int × Int) : Int × Int := HK env fx mem (jf gh) t c i b
theorem jHK_ok {HK} (h : aHK h0 tyt (aGSd sv el (gGH fam AT π)) HK) : aHK h0 tyt (aGSd sv el (gGJ XG fam AT π)) (jHK HK) :=
  fun env fx mem gh g ρ t c i b k j hC => h env fx mem (jf gh) g ρ t c i b k j (coR_j hC)
/-- kind 70 of more is kind 70 of less -/
def x70 (XG : Nat → Nat → Nat → Int → cg → Prop) : Prop := (∀ (a b a' b' : Nat) (E E' : Int) (g : cg), XG 70 a b E g → E' ≤ E → XG 70 a' b' E' g) ∧ ∀ (a b : Nat) (E : Int) (g g' : cg), XG 70 a b E g → g' 2 = g 2 → g' 89 = g 89 → g' 259 = g 259 → XG 70 a b E g'
/-- the type is the tape's, or the keys' -/
noncomputable def jty (tyt : Lean.RArray (Nat × Nat)) (t : Nat) : Bool := cond (xtq tyt 2 t) true (cond (xtq tyt 89 t) true (xtq tyt 259 t))
theorem jty_ok {t k : Nat} (h : jty tyt t = false) (hk : xg tyt k = some t) : k ≠ 2 ∧ k ≠ 89 ∧ k ≠ 259 := by
  refine ⟨fun e => ?_, fun e => ?_, fun e => ?_⟩
  · rw [e] at hk
    unfold jty at h
    rw [xtq_ok hk] at h
    cases h
  · rw [e] at hk
    unfold jty at h
    rw [xtq_ok hk] at h
    cases hb : xtq tyt 2 t <;> rw [hb] at h <;> cases h
  · rw [e] at hk
    unfold jty at h
    rw [xtq_ok hk] at h
    cases hb : xtq tyt 2 t <;> rw [hb] at h
    · cases hc : xtq tyt 89 t <;> rw [hc] at h <;> cases h
    · cases h
noncomputable def jkp (tyt : Lean.RArray (Nat × Nat)) (t : Nat) (gh : List gho) : List gho := cond (jty tyt t) [] (gh.filter (fun x => Nat.beq x.1 70))
theorem jkp_ok (hX : x70 XG) {env : aenv} {fx : List ae} {mem : List am} {gh : List gho} {g g' : cg} {ρ : Nat → Int} {t k : Nat} (hC : coR h0 tyt (aGSd sv el (gGJ XG fam AT π)) env fx mem gh g ρ) (hk : xg tyt k = some t) (hg : ∀ k' : Nat, k' ≠ k → g' k' = g k') : ghR (aGSd sv el (gGJ XG fam AT π)) (jkp tyt t gh) ρ g' := by
  intro x hx
  unfold jkp at hx
  cases hb : jty tyt t with
  | true => rw [hb] at hx; exact absurd hx List.not_mem_nil
  | false =>
    rw [hb] at hx
    obtain ⟨n1, n2, n3⟩ := jty_ok hb hk
    obtain ⟨x1, x2⟩ := List.mem_filter.mp hx
    have ex : x.1 = 70 := xeqb x2
    have hy := hC.2.2.2 x x1
    rw [aGSd_x (by rw [ex]; rfl), ex] at hy
    rw [aGSd_x (by rw [ex]; rfl), ex]
    exact hX.2 _ _ _ g g' hy (hg 2 (Ne.symm n1)) (hg 89 (Ne.symm n2)) (hg 259 (Ne.symm n3))
/-- what kind 72 looks at: cells, places from, to; it stands where these are the same; at another base if the reference's court was copied there -/
def xRL (XG : Nat → Nat → Nat → Int → cg → Prop) (dep : Nat → List (Nat × Int × Int)) (AT : Nat) : Prop := (∀ (a b b' : Nat) (E E' : Int) (g g' : cg), XG 72 a b E g → (∀ q ∈ dep a, ∀ j : Nat, q.2.1 ≤ (j : Int) → (j : Int) ≤ q.2.2 → g' q.1 j = g q.1 j) → XG 72 a b' E' g') ∧ ∀ (a a' b : Nat) (E : Int) (g : cg), a < 9000 → a' < 9000 → XG 72 a b E g → (∀ j : Nat, j < 260 → g AT (a' + j) = g AT (a + j)) → XG 72 a' b E g
section JR
variable {dep : Nat → List (Nat × Int × Int)}
/-- a store doesn't lie there -/
noncomputable def jms (tyt : Lean.RArray (Nat × Nat)) (env : aenv) (fx : List ae) (t : Nat) (c i : ae) (q : Nat × Int × Int) : Bool := cond (xtq tyt q.1 t) (cond (ene env c ((q.1 : Int), [])) true (cond (elef env fx 2 (eadc i (Int.add 1 (Int.neg q.2.1)))) true (elef env fx 2 (eadc (escl i (-1)) (Int.add q.2.2 1))))) true
theorem jms_ok {env : aenv} {fx : List ae} {ρ : Nat → Int} (hE : envR env ρ) (hF : fxR fx ρ) {t k j : Nat} {c i : ae} {q : Nat × Int × Int} (h : jms tyt env fx t c i q = true) (hc : ev ρ c = (k : Int)) (hi : ev ρ i = (j : Int)) (hk : xg tyt k = some t) : ∀ j' : Nat, q.2.1 ≤ (j' : Int) → (j' : Int) ≤ q.2.2 → ¬ (q.1 = k ∧ j' = j) := by
  intro j' h1 h2 ⟨e1, e2⟩
  unfold jms at h
  rw [xtq_ok (k := q.1) (t := t) (by rw [e1]; exact hk)] at h
  simp only [cond_true] at h
  cases h3 : ene env c ((q.1 : Int), []) with
  | true =>
    have := ene_ok hE h3
    rw [evc, hc, e1] at this
    exact this rfl
  | false =>
    rw [h3] at h
    simp only [cond_false] at h
    cases h4 : elef env fx 2 (eadc i (Int.add 1 (Int.neg q.2.1))) with
    | true =>
      have h5 := elef_ok hE hF 2 _ h4
      rw [eadc_ev, hi] at h5
      have h5 : (j : Int) + (1 + -q.2.1) ≤ 0 := h5
      omega
    | false =>
      rw [h4] at h
      simp only [cond_false] at h
      have h5 := elef_ok hE hF 2 _ h
      rw [eadc_ev, escl_ev, hi] at h5
      have h5 : -1 * (j : Int) + (q.2.2 + 1) ≤ 0 := h5
      omega
noncomputable def jst (tyt : Lean.RArray (Nat × Nat)) (dep : Nat → List (Nat × Int × Int)) (env : aenv) (fx : List ae) (t : Nat) (c i : ae) (gh : List gho) : List gho := gh.filter (fun x => cond (Nat.beq x.1 72) ((dep x.2.1).all (fun q => jms tyt env fx t c i q)) false)
noncomputable def jHS (tyt : Lean.RArray (Nat × Nat)) (dep : Nat → List (Nat × Int × Int)) (HS : aenv → List ae → List am → List gho → Nat → ae → ae → av → List gho) (env : aenv) (fx : List ae) (mem : List am) (gh : List gho) (t : Nat) (c i : ae) (v : av) : List gho := jkp tyt t gh ++ (jst tyt dep env fx t c i gh ++ jf (HS env fx mem (jf gh) t c i v))
theorem jHS_ok (hY : x70 XG) (hX : xRL XG dep AT) {HS} (h : aHS h0 tyt (aGSd sv el (gGH fam AT π)) HS) : aHS h0 tyt (aGSd sv el (gGJ XG fam AT π)) (jHS tyt dep HS) := by
  intro env fx mem gh g ρ t c i v k j hC h1 h2 h3 h4 x hx
  rcases List.mem_append.mp hx with hx | hx
  · exact jkp_ok hY hC h3 (fun k' hk' => funext fun j' => by
      unfold cup
      rw [if_neg (fun e => hk' e.1)]) x hx
  rcases List.mem_append.mp hx with hx | hx
  · obtain ⟨x1, x2⟩ := List.mem_filter.mp hx
    obtain ⟨x2, x3⟩ := xcnb x2
    have ex : x.1 = 72 := xeqb x2
    have hy := hC.2.2.2 x x1
    rw [aGSd_x (by rw [ex]; rfl), ex] at hy
    rw [aGSd_x (by rw [ex]; rfl), ex]
    refine hX.1 _ _ _ _ _ g _ hy (fun q hq j' h5 h6 => ?_)
    have h7 := jms_ok hC.1 hC.2.1 (List.all_eq_true.mp x3 q hq) h1 h2 h3 j' h5 h6
    unfold cup
    rw [if_neg (fun e => h7 ⟨e.1, e.2⟩)]
  · exact ghR_j (h env fx mem (jf gh) g ρ t c i v k j (coR_j hC) h1 h2 h3 h4) x hx
noncomputable def jHA (tyt : Lean.RArray (Nat × Nat)) (dep : Nat → List (Nat × Int × Int)) (HA : aenv → List ae → List am → List gho → Nat → ae → Nat → ae → ae → ae → ae → List gho) (env : aenv) (fx : List ae) (mem : List am) (gh : List gho) (ta : Nat) (ca : ae) (tb : Nat) (cb sp dp m : ae) : List gho := jkp tyt tb gh ++ (gh.filter (fun x => cond (Nat.beq x.1 72) ((dep x.2.1).all (fun q => !xtq tyt q.1 tb)) false) ++ jf (HA env fx mem (jf gh) ta ca tb cb sp dp m))
theorem jHA_ok (hY : x70 XG) (hX : xRL XG dep AT) {HA} (h : aHA h0 tyt (aGSd sv el (gGH fam AT π)) HA) : aHA h0 tyt (aGSd sv el (gGJ XG fam AT π)) (jHA tyt dep HA) := by
  intro env fx mem gh g ρ ta ca tb cb sp dp m ka kb s d n hC h1 h2 h3 h4 h5 h6 h7 x hx
  rcases List.mem_append.mp hx with hx | hx
  · exact jkp_ok hY hC h4 (fun k' hk' => funext fun j' => by
      unfold ccp
      rw [if_neg (fun e => hk' e.1)]) x hx
  rcases List.mem_append.mp hx with hx | hx
  · obtain ⟨x1, x2⟩ := List.mem_filter.mp hx
    obtain ⟨x2, x3⟩ := xcnb x2
    have ex : x.1 = 72 := xeqb x2
    have hy := hC.2.2.2 x x1
    rw [aGSd_x (by rw [ex]; rfl), ex] at hy
    rw [aGSd_x (by rw [ex]; rfl), ex]
    refine hX.1 _ _ _ _ _ g _ hy (fun q hq j' h8 h9 => ?_)
    have h10 := List.all_eq_true.mp x3 q hq
    unfold ccp
    rw [if_neg (fun e => by
      rw [xtq_ok (k := q.1) (t := tb) (by rw [e.1]; exact h4)] at h10
      cases h10)]
  · exact ghR_j (h env fx mem (jf gh) g ρ ta ca tb cb sp dp m ka kb s d n (coR_j hC) h1 h2 h3 h4 h5 h6 h7) x hx
/-- one place more of a copy, where both places hold the same -/
noncomputable def jcx (ta AT : Nat) (env : aenv) (mem : List am) (gh : List gho) (x : gho) : Bool := gh.any (fun y => cond (Nat.beq y.1 2) (cond (Nat.beq y.2.1 x.2.1) (cond (Nat.beq y.2.2.1 x.2.2.1) (cond (eeq env x.2.2.2 (eadc y.2.2.2 1)) (match gnum env mem ta AT (eadc y.2.2.2 (y.2.1 : Int)) with
  | none => false
  | some u => match gnum env mem ta AT (eadc y.2.2.2 (y.2.2.1 : Int)) with
    | none => false
    | some w => eeq env u w) false) false) false) false)
/-- what can't be -/
noncomputable def jno (env : aenv) (fx : List ae) : Bool := fx.any (fun f => elef env [] 1 (eadc (escl f (-1)) 1))
theorem jno_ok {env : aenv} {fx : List ae} {ρ : Nat → Int} (hE : envR env ρ) (hF : fxR fx ρ) (h : jno env fx = true) : False := by
  obtain ⟨f, hf, e⟩ := List.any_eq_true.mp h
  have e := elef_ok hE (show fxR [] ρ from fun _ z => absurd z List.not_mem_nil) 1 _ e
  rw [eadc_ev, escl_ev] at e
  have := hF f hf
  omega
noncomputable def jHH (ta AT : Nat) (HH : aenv → List ae → List am → List gho → gho → Bool) (env : aenv) (fx : List ae) (mem : List am) (gh : List gho) (x : gho) : Bool := cond (Nat.ble 70 x.1) (cond (Nat.beq x.1 72) (cond (jrl env fx gh x.2.1) true (jno env fx)) (cond (Nat.beq x.1 70) (gh.any (fun y => cond (Nat.beq y.1 70) (elef env fx 2 (eadd x.2.2.2 y.2.2.2 (-1))) false)) false)) (cond (cond (Nat.beq x.1 2) (jcx ta AT env mem gh x) false) true (HH env fx mem (jf gh) x))
theorem jrl_ok (hX : xRL XG dep AT) {env : aenv} {fx : List ae} {mem : List am} {gh : List gho} {g : cg} {ρ : Nat → Int} {a : Nat} (hC : coR h0 tyt (aGSd sv el (gGJ XG fam AT π)) env fx mem gh g ρ) (h : jrl env fx gh a = true) (b : Nat) (E : Int) : XG 72 a b E g := by
  obtain ⟨y, hy, e⟩ := List.any_eq_true.mp h
  obtain ⟨e1, e2⟩ := xcnb e
  have ey : y.1 = 72 := xeqb e1
  have hz := hC.2.2.2 y hy
  rw [aGSd_x (by rw [ey]; rfl), ey] at hz
  rcases xcnt e2 with e3 | e3
  · have e4 : y.2.1 = a := xeqb e3
    rw [e4] at hz
    exact hX.1 a _ b _ E g g hz (fun _ _ _ _ _ => rfl)
  · cases b1 : Nat.ble 9000 a with
    | true => rw [b1] at e3; cases e3
    | false =>
    rw [b1] at e3
    cases b2 : Nat.ble 9000 y.2.1 with
    | true => rw [b2] at e3; cases e3
    | false =>
    rw [b2] at e3
    have b1 : a < 9000 := Nat.lt_of_not_le (fun q => by rw [Nat.ble_eq_true_of_le q] at b1; cases b1)
    have b2 : y.2.1 < 9000 := Nat.lt_of_not_le (fun q => by rw [Nat.ble_eq_true_of_le q] at b2; cases b2)
    simp only [cond_false] at e3
    obtain ⟨w, hw, f⟩ := List.any_eq_true.mp e3
    obtain ⟨f1, f⟩ := xcnb f
    obtain ⟨f2, f⟩ := xcnb f
    obtain ⟨f3, f⟩ := xcnb f
    have f1 : w.1 = 2 := xeqb f1
    have f2 : w.2.1 = a := xeqb f2
    have f3 : w.2.2.1 = y.2.1 := xeqb f3
    have f := elef_ok hC.1 hC.2.1 2 _ f
    rw [eadc_ev, escl_ev] at f
    have hw2 := hC.2.2.2 w hw
    rw [aGSd_j (by rw [f1]; rfl)] at hw2
    have hw3 : ∀ j : Nat, (j : Int) < ev ρ w.2.2.2 → g AT (w.2.1 + j) = g AT (w.2.2.1 + j) := by
      obtain ⟨w1, w2, w3, w4⟩ := w
      have f1 : w1 = 2 := f1
      subst f1
      exact hw2
    rw [f2, f3] at hw3
    exact hX.1 a _ b _ E g g (hX.2 _ a _ _ g b2 b1 hz (fun j hj => hw3 j (by omega))) (fun _ _ _ _ _ => rfl)
theorem jHH_ok (hY : x70 XG) (hX : xRL XG dep AT) {ta : Nat} {HH} (h : aHH h0 tyt (aGSd sv el (gGH fam AT π)) HH) : aHH h0 tyt (aGSd sv el (gGJ XG fam AT π)) (jHH ta AT HH) := by
  intro env fx mem gh x g ρ hh hC
  unfold jHH at hh
  cases hb : Nat.ble 70 x.1 with
  | false =>
    rw [hb] at hh
    rcases xcnt (show cond (cond (Nat.beq x.1 2) (jcx ta AT env mem gh x) false) true (HH env fx mem (jf gh) x) = true from hh) with hh | hh
    · obtain ⟨h1, h2⟩ := xcnb hh
      obtain ⟨y, hy, e⟩ := List.any_eq_true.mp h2
      obtain ⟨e1, e⟩ := xcnb e
      obtain ⟨e2, e⟩ := xcnb e
      obtain ⟨e3, e⟩ := xcnb e
      obtain ⟨e4, e⟩ := xcnb e
      have e1 : y.1 = 2 := xeqb e1
      have e2 : y.2.1 = x.2.1 := xeqb e2
      have e3 : y.2.2.1 = x.2.2.1 := xeqb e3
      have e4 := eeq_ok hC.1 e4
      rw [eadc_ev] at e4
      split at e
      · cases e
      · rename_i u hu
        split at e
        · cases e
        · rename_i w hw
          have e5 := eeq_ok hC.1 e
          obtain ⟨j1, u1, u2, -⟩ := gnum_ok hC hu
          obtain ⟨j2, w1, w2, -⟩ := gnum_ok hC hw
          rw [eadc_ev] at u1 w1
          have hy2 := hC.2.2.2 y hy
          rw [aGSd_j (by rw [e1]; rfl)] at hy2
          have hy3 : ∀ j : Nat, (j : Int) < ev ρ y.2.2.2 → g AT (y.2.1 + j) = g AT (y.2.2.1 + j) := by
            obtain ⟨yk, ya, yb, ye⟩ := y
            have e1 : yk = 2 := e1
            subst e1
            exact hy2
          have ex : x.1 = 2 := xeqb h1
          have key : ∀ j : Nat, (j : Int) < ev ρ x.2.2.2 → g AT (x.2.1 + j) = g AT (x.2.2.1 + j) := by
            intro j hj
            rw [← e2, ← e3]
            by_cases q : (j : Int) < ev ρ y.2.2.2
            · exact hy3 j q
            · have q1 : j1 = y.2.1 + j := by omega
              have q2 : j2 = y.2.2.1 + j := by omega
              rw [← q1, ← q2, u2, w2, e5]
          rw [aGSd_j hb]
          obtain ⟨x1, x2, x3, x4⟩ := x
          have ex : x1 = 2 := ex
          subst ex
          exact key
    · exact (aGSd_j hb).mpr (h env fx mem (jf gh) x g ρ hh (coR_j hC))
  | true =>
    rw [hb] at hh
    have hh : cond (Nat.beq x.1 72) (cond (jrl env fx gh x.2.1) true (jno env fx)) (cond (Nat.beq x.1 70) (gh.any (fun y => cond (Nat.beq y.1 70) (elef env fx 2 (eadd x.2.2.2 y.2.2.2 (-1))) false)) false) = true := hh
    cases h1 : Nat.beq x.1 72 with
    | true =>
      rw [h1] at hh
      have ex : x.1 = 72 := xeqb h1
      rw [aGSd_x hb, ex]
      rcases xcnt hh with hh | hh
      · exact jrl_ok hX hC hh _ _
      · exact (jno_ok hC.1 hC.2.1 hh).elim
    | false =>
      rw [h1] at hh
      obtain ⟨h1, h2⟩ := xcnb (show cond (Nat.beq x.1 70) _ false = true from hh)
      obtain ⟨y, hy, h3⟩ := List.any_eq_true.mp h2
      obtain ⟨h4, h5⟩ := xcnb h3
      have h6 := elef_ok hC.1 hC.2.1 2 _ h5
      rw [eadd_ev] at h6
      have hy2 := hC.2.2.2 y hy
      have ex : x.1 = 70 := xeqb h1
      have ey : y.1 = 70 := xeqb h4
      rw [aGSd_x (by rw [ey]; rfl), ey] at hy2
      rw [aGSd_x hb, ex]
      exact hY.1 _ _ _ _ _ _ _ hy2 (by omega)
noncomputable def jHW (tyt : Lean.RArray (Nat × Nat)) (dep : Nat → List (Nat × Int × Int)) (HW : aenv → List ae → List am → List gho → List awr → List gho) (env : aenv) (fx : List ae) (mem : List am) (gh : List gho) (wr : List awr) : List gho := cond (cond (xrw tyt wr 2) (cond (xrw tyt wr 89) (xrw tyt wr 259) false) false) (gh.filter (fun x => Nat.beq x.1 70)) [] ++ (gh.filter (fun x => cond (Nat.beq x.1 72) ((dep x.2.1).all (fun q => jwq tyt wr q)) false) ++ jf (HW env fx mem (jf gh) wr))
theorem jHW_ok (hY : x70 XG) (hX : xRL XG dep AT) {HW} (h : aHW h0 tyt (aGSd sv el (gGH fam AT π)) HW) : aHW h0 tyt (aGSd sv el (gGJ XG fam AT π)) (jHW tyt dep HW) := by
  intro env fx mem gh wr g g' ρ hC hg x hx
  rcases List.mem_append.mp hx with hx | hx
  · cases hb : cond (xrw tyt wr 2) (cond (xrw tyt wr 89) (xrw tyt wr 259) false) false with
    | false => rw [hb] at hx; exact absurd hx List.not_mem_nil
    | true =>
      rw [hb] at hx
      obtain ⟨b1, b2⟩ := xcnb hb
      obtain ⟨b2, b3⟩ := xcnb b2
      obtain ⟨x1, x2⟩ := List.mem_filter.mp hx
      have ex : x.1 = 70 := xeqb x2
      have hy := hC.2.2.2 x x1
      rw [aGSd_x (by rw [ex]; rfl), ex] at hy
      rw [aGSd_x (by rw [ex]; rfl), ex]
      exact hY.2 _ _ _ g g' hy (funext fun j => hg 2 j (xrw_ok b1 j)) (funext fun j => hg 89 j (xrw_ok b2 j)) (funext fun j => hg 259 j (xrw_ok b3 j))
  rcases List.mem_append.mp hx with hx | hx
  · obtain ⟨x1, x2⟩ := List.mem_filter.mp hx
    obtain ⟨x2, x3⟩ := xcnb x2
    have ex : x.1 = 72 := xeqb x2
    have hy := hC.2.2.2 x x1
    rw [aGSd_x (by rw [ex]; rfl), ex] at hy
    rw [aGSd_x (by rw [ex]; rfl), ex]
    exact hX.1 _ _ _ _ _ g g' hy (fun q hq j h5 h6 => hg q.1 j (jwq_ok (List.all_eq_true.mp x3 q hq) h5 h6))
  · exact ghR_j (h env fx mem (jf gh) wr g g' ρ (coR_j hC) hg) x hx
end JR
end J
