/-! From a cut of a loop that stands for itself -/
section Cut
variable {sv : Nat → Int32} {cd : xcd} {mi : xmi} {df : xdf} {el ec : Nat → Nat} {eb : Nat → List Nat} {G : xG} {h0 : xheap} {n0 : Nat} {cn0 sn0 : Nat → Nat}
variable {tyt : Lean.RArray (Nat × Nat)} {typs : Lean.RArray (Nat × aty)} {GH : Nat → Nat → Nat → Int → cg → Prop}
variable {HK : aenv → List ae → List am → List gho → Nat → ae → ae → Int × Int → Int × Int} {HS : aenv → List ae → List am → List gho → Nat → ae → ae → av → List gho}
variable {HA : aenv → List ae → List am → List gho → Nat → ae → Nat → ae → ae → ae → ae → List gho} {HH : aenv → List ae → List am → List gho → gho → Bool} {HW : aenv → List ae → List am → List gho → List awr → List gho}
variable {inl : Nat → Bool} {fl : Nat → Nat → Nat} {spl : Nat → Nat → Option (Nat × Nat × Nat × Nat × List Int)} {cand : Nat → List Nat} {INS : Lean.RArray (Nat × ains)}
theorem acut_ok (hB : aBase sv cd mi df el ec eb G h0 cn0 sn0 tyt typs GH HK HS HA HH HW) {f i : Nat} {I : ains} (c1 : awfI I = true) (c3 : ∀ (pc : Nat) (L : List apat) (P : apat), (pc, L) ∈ I.2.2.2.1 → P ∈ L → arnI h0 tyt typs HK HS HA HH HW cd mi ec eb inl fl spl cand INS f i I P (some P.2.2.2.2.2.2.2) pc = true) (hwfI : ∀ c J, c < i → xg INS c = some J → awfI J = true) (hz : ∀ c J, c < i → xg INS c = some J → cn0 J.1 = 0 ∧ sn0 J.1 = 0) (ih : ∀ c J, c < i → xg INS c = some J → aInsOK G h0 n0 cn0 sn0 tyt typs (aGSd sv el GH) J) (ρe : Nat → Int) (g0 : cg) :
    ∀ (n : Nat) (pc : Nat) (L : List apat) (P : apat), acts I.2.2.2.1 pc = some L → P ∈ L → ∀ (ρc : Nat → Int) (g : cg) (lsc : List (Nat × cv)) (stc : List cv) (d : Nat), aag I.2.2.1.2.2.2.2.1.length ρe ρc → patR h0 tyt (aGSd sv el GH) P ρc g lsc stc none → aInv tyt typs g → (∀ k j : Nat, ¬ awc tyt I.2.2.2.2.2 k j → g k j = g0 k j) → I.2.1 ≤ d → ev ρc P.2.2.2.2.2.2.2 < (n : Int) → cT G h0 n0 I.1 d pc lsc stc g (cn0 I.1) (sn0 I.1) (aQi h0 tyt typs (aGSd sv el GH) I ρe g0) := by
  obtain ⟨w1, w⟩ := xcnb c1
  obtain ⟨w2, w3⟩ := xcnb w
  intro n
  induction n with
  | zero =>
    intro pc L P hL hP ρc g lsc stc d hag hp hI' hfr hd' hm
    have wP := List.all_eq_true.mp (List.all_eq_true.mp w3 (pc, L) (acts_mem hL)) P hP
    obtain ⟨v1, wP⟩ := xcnb wP
    obtain ⟨v2, v3⟩ := xcnb wP
    have hrun := c3 pc L P (acts_mem hL) hP
    refine arn_ok hB v1 (xleb v2) hag hp hI' hfr hd' (aSMi_ok hB hwfI hz ih) (fun pc' L' P' hL' hP' ρ2 g' lsc' stc' d' a1 a2 a3 a4 a5 a6 => ?_) (fun m0 em => by have : P.2.2.2.2.2.2.2 = m0 := Option.some.inj em; rw [← this]; exact v3) hrun
    obtain ⟨b1, b2⟩ := a6 _ rfl ρc (aag.rf _ _)
    rcases b2 with b2 | b2
    · omega
    · exact b2.elim
  | succ n ihn =>
    intro pc L P hL hP ρc g lsc stc d hag hp hI' hfr hd' hm
    have wP := List.all_eq_true.mp (List.all_eq_true.mp w3 (pc, L) (acts_mem hL)) P hP
    obtain ⟨v1, wP⟩ := xcnb wP
    obtain ⟨v2, v3⟩ := xcnb wP
    have hrun := c3 pc L P (acts_mem hL) hP
    refine arn_ok hB v1 (xleb v2) hag hp hI' hfr hd' (aSMi_ok hB hwfI hz ih) (fun pc' L' P' hL' hP' ρ2 g' lsc' stc' d' a1 a2 a3 a4 a5 a6 => ?_) (fun m0 em => by have : P.2.2.2.2.2.2.2 = m0 := Option.some.inj em; rw [← this]; exact v3) hrun
    obtain ⟨b1, b2⟩ := a6 _ rfl ρc (aag.rf _ _)
    rcases b2 with b2 | b2
    · exact ihn pc' L' P' hL' hP' ρ2 g' lsc' stc' d' a1 a2 a3 a4 a5 (by omega)
    · exact b2.elim
end Cut
