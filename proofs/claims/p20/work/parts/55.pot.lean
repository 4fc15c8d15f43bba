/-! A loop that a sum of counters ends; all instances but one -/
section Pot
variable {XG : Nat → Nat → Nat → Int → cg → Prop}
variable {sv : Nat → Int32} {cd : xcd} {mi : xmi} {df : xdf} {el ec : Nat → Nat} {eb : Nat → List Nat} {G : xG} {h0 : xheap} {n0 : Nat} {cn0 sn0 : Nat → Nat}
variable {tyt : Lean.RArray (Nat × Nat)} {typs : Lean.RArray (Nat × aty)} {fam : Lean.RArray (Nat × afam)} {AT : Nat}
variable {HK : aenv → List ae → List am → List gho → Nat → ae → ae → Int × Int → Int × Int} {HS : aenv → List ae → List am → List gho → Nat → ae → ae → av → List gho}
variable {HA : aenv → List ae → List am → List gho → Nat → ae → Nat → ae → ae → ae → ae → List gho} {HH : aenv → List ae → List am → List gho → gho → Bool} {HW : aenv → List ae → List am → List gho → List awr → List gho}
variable {inl : Nat → Bool} {fl : Nat → Nat → Nat} {spl : Nat → Nat → Option (Nat × Nat × Nat × Nat × List Int)} {cand : Nat → List Nat} {INS : Lean.RArray (Nat × ains)}
def agl (P : apat) (l : List gho) (m : ae) : apat := (P.1, P.2.1, P.2.2.1, P.2.2.2.1, P.2.2.2.2.1, P.2.2.2.2.2.1, l, m)
def ago (I : ains) (P : apat) (pc a b : Nat) : ains := (I.1, I.2.1, I.2.2.1, [(pc, [agl P [(4, a, b, (-1, []))] (0, []), agl P [(4, a, b, (0, []))] P.2.2.2.2.2.2.2])], I.2.2.2.2.1, I.2.2.2.2.2)
def anl {α : Type} : List α → Bool
  | [] => true
  | _ :: _ => false
theorem anil {α : Type} {l : List α} (h : anl l = true) : l = [] := by
  cases l with
  | nil => rfl
  | cons q l => cases h
noncomputable def achP (h0 : xheap) (tyt : Lean.RArray (Nat × Nat)) (typs : Lean.RArray (Nat × aty)) (HK : aenv → List ae → List am → List gho → Nat → ae → ae → Int × Int → Int × Int) (HS : aenv → List ae → List am → List gho → Nat → ae → ae → av → List gho) (HA : aenv → List ae → List am → List gho → Nat → ae → Nat → ae → ae → ae → ae → List gho) (HH : aenv → List ae → List am → List gho → gho → Bool) (HW : aenv → List ae → List am → List gho → List awr → List gho) (cd : xcd) (mi : xmi) (el : Nat → Nat) (eb : Nat → List Nat) (inl : Nat → Bool) (fl : Nat → Nat → Nat) (spl : Nat → Nat → Option (Nat × Nat × Nat × Nat × List Int)) (cand : Nat → List Nat) (INS : Lean.RArray (Nat × ains)) (f pc a b : Nat) (I : ains) (P : apat) : Bool :=
  cond (awfI I) (cond (arnI h0 tyt typs HK HS HA HH HW cd mi el eb inl fl spl cand INS f 0 I I.2.2.1 none 0) (cond (arnI h0 tyt typs HK HS HA HH HW cd mi el eb inl fl spl cand INS f 0 (ago I P pc a b) (agl P [(4, a, b, (0, []))] P.2.2.2.2.2.2.2) (some P.2.2.2.2.2.2.2) pc) (cond (awfP (agl P [(4, a, b, (0, []))] P.2.2.2.2.2.2.2)) (cond (anl P.2.2.2.2.2.2.1) (I.2.2.2.2.1.all (fun Q => anl Q.2.2.2.2.2.2.1)) false) false) false) false) false
theorem apot_ok (hB : ∀ π, aBase sv cd mi df el ec eb G h0 cn0 sn0 tyt typs (gGJ XG fam AT π) HK HS HA HH HW) {f pc a b : Nat} {I : ains} {P : apat} (hI : I.2.2.2.1 = [(pc, [P])]) (h : achP h0 tyt typs HK HS HA HH HW cd mi ec eb inl fl spl cand INS f pc a b I P = true) : awfI I = true ∧ aInsOK G h0 n0 cn0 sn0 tyt typs (aGSd sv el (gGJ XG fam AT 0)) I := by
  obtain ⟨c1, h⟩ := xcnb h
  obtain ⟨c2, h⟩ := xcnb h
  obtain ⟨c3, h⟩ := xcnb h
  obtain ⟨c4, h⟩ := xcnb h
  obtain ⟨c5, c6⟩ := xcnb h
  refine ⟨c1, ?_⟩
  obtain ⟨w1, w⟩ := xcnb c1
  obtain ⟨w2, w3⟩ := xcnb w
  have hgP := anil c5
  have hgQ : ∀ Q ∈ I.2.2.2.2.1, Q.2.2.2.2.2.2.1 = [] := fun Q hQ => anil (List.all_eq_true.mp c6 Q hQ)
  rw [hI] at w3
  have wP := List.all_eq_true.mp (List.all_eq_true.mp w3 (pc, [P]) List.mem_cons_self) P List.mem_cons_self
  obtain ⟨v1, wP⟩ := xcnb wP
  obtain ⟨v2, v3⟩ := xcnb wP
  have conv : ∀ (π π' : Int) (Q : apat) (ρ : Nat → Int) (g : cg) (lsc : List (Nat × cv)) (stc : List cv) (rv : Option cv), Q.2.2.2.2.2.2.1 = [] → patR h0 tyt (aGSd sv el (gGJ XG fam AT π)) Q ρ g lsc stc rv → patR h0 tyt (aGSd sv el (gGJ XG fam AT π')) Q ρ g lsc stc rv := by
    intro π π' Q ρ g lsc stc rv hQ hp
    obtain ⟨p1, p2, p3, p4, p5, p6, p7⟩ := hp
    exact ⟨p1, p2, p3, p4, p5, p6, by rw [hQ]; exact fun x hx => absurd hx List.not_mem_nil⟩
  intro ρe g0 lsc0 d0 hpat0 hInv0 hd0
  have convQ : ∀ (π π' : Int) (g' : cg) (rv : Option cv), aQi h0 tyt typs (aGSd sv el (gGJ XG fam AT π)) I ρe g0 g' rv → aQi h0 tyt typs (aGSd sv el (gGJ XG fam AT π')) I ρe g0 g' rv := by
    intro π π' g' rv hq
    obtain ⟨q1, q2, Q, hQ, ρ2, q3, q4⟩ := hq
    exact ⟨q1, q2, Q, hQ, ρ2, q3, conv π π' Q ρ2 g' [] [] rv (hgQ Q hQ) q4⟩
  have one : ∀ (ρc : Nat → Int) (g : cg) (lsc : List (Nat × cv)) (stc : List cv) (d : Nat), aag I.2.2.1.2.2.2.2.1.length ρe ρc → patR h0 tyt (aGSd sv el (gGJ XG fam AT 0)) P ρc g lsc stc none → aInv tyt typs g → (∀ k j : Nat, ¬ awc tyt I.2.2.2.2.2 k j → g k j = g0 k j) → I.2.1 ≤ d →
      (∀ (ρ2 : Nat → Int) (g' : cg) (lsc' : List (Nat × cv)) (stc' : List cv) (d' : Nat), aag I.2.2.1.2.2.2.2.1.length ρe ρ2 → patR h0 tyt (aGSd sv el (gGJ XG fam AT 0)) P ρ2 g' lsc' stc' none → aInv tyt typs g' → (∀ k j : Nat, ¬ awc tyt I.2.2.2.2.2 k j → g' k j = g0 k j) → I.2.1 ≤ d' → (psum g' a b = psum g a b - 1 ∨ (psum g' a b = psum g a b ∧ 0 ≤ ev ρ2 P.2.2.2.2.2.2.2 ∧ ev ρ2 P.2.2.2.2.2.2.2 < ev ρc P.2.2.2.2.2.2.2)) → cT G h0 n0 I.1 d' pc lsc' stc' g' (cn0 I.1) (sn0 I.1) (aQi h0 tyt typs (aGSd sv el (gGJ XG fam AT 0)) I ρe g0)) →
      cT G h0 n0 I.1 d pc lsc stc g (cn0 I.1) (sn0 I.1) (aQi h0 tyt typs (aGSd sv el (gGJ XG fam AT 0)) I ρe g0) := by
    intro ρc g lsc stc d hag hpat hInv hfr hd K
    have hp2 : patR h0 tyt (aGSd sv el (gGJ XG fam AT (psum g a b))) (agl P [(4, a, b, (0, []))] P.2.2.2.2.2.2.2) ρc g lsc stc none := by
      obtain ⟨p1, p2, p3, p4, p5, p6, p7⟩ := hpat
      refine ⟨p1, p2, p3, p4, p5, p6, fun x hx => ?_⟩
      have e := List.mem_singleton.mp hx
      subst e
      show psum g a b = psum g a b + ev ρc (0, [])
      rw [show ev ρc ((0, []) : ae) = 0 from ecst_ev ρc 0]
      omega
    have key := arn_ok (hB (psum g a b)) (I := ago I P pc a b) (P := agl P [(4, a, b, (0, []))] P.2.2.2.2.2.2.2) (M := some P.2.2.2.2.2.2.2) (n0 := n0) (ρe := ρe) (g0 := g0) c4 (xleb v2) hag hp2 hInv hfr hd (aSMi_ok (hB (psum g a b)) (i := 0) (fun c J hc => absurd hc (Nat.not_lt_zero c)) (fun c J hc => absurd hc (Nat.not_lt_zero c)) (fun c J hc => absurd hc (Nat.not_lt_zero c)))
      (fun pc' L P' hL hP' ρ2 g' lsc' stc' d' a1 a2 a3 a4 a5 a6 => by
        have hL : cond (Nat.beq pc pc') (some [agl P [(4, a, b, (-1, []))] (0, []), agl P [(4, a, b, (0, []))] P.2.2.2.2.2.2.2]) none = some L := hL
        obtain ⟨l1, l2⟩ := xcnd hL
        have e1 : pc = pc' := xeqb l1
        subst e1
        have e2 := Option.some.inj l2
        subst e2
        have a6 := a6 _ rfl ρc (aag.rf _ _)
        rcases List.mem_cons.mp hP' with e3 | e3
        · subst e3
          obtain ⟨p1, p2, p3, p4, p5, p6, p7⟩ := a2
          have p7 : psum g' a b = psum g a b + ev ρ2 (-1, []) := p7 _ List.mem_cons_self
          rw [show ev ρ2 ((-1, []) : ae) = -1 from ecst_ev ρ2 (-1)] at p7
          exact (K ρ2 g' lsc' stc' d' a1 ⟨p1, p2, p3, p4, p5, p6, by rw [hgP]; exact fun x hx => absurd hx List.not_mem_nil⟩ a3 a4 a5 (Or.inl (by omega))).mono (fun g2 rv hq => convQ 0 (psum g a b) g2 rv hq)
        · have e3 := List.mem_singleton.mp e3
          subst e3
          obtain ⟨p1, p2, p3, p4, p5, p6, p7⟩ := a2
          have p7 : psum g' a b = psum g a b + ev ρ2 (0, []) := p7 _ List.mem_cons_self
          rw [show ev ρ2 ((0, []) : ae) = 0 from ecst_ev ρ2 0] at p7
          refine (K ρ2 g' lsc' stc' d' a1 ⟨p1, p2, p3, p4, p5, p6, by rw [hgP]; exact fun x hx => absurd hx List.not_mem_nil⟩ a3 a4 a5 (Or.inr ⟨by omega, a6.1, ?_⟩)).mono (fun g2 rv hq => convQ 0 (psum g a b) g2 rv hq)
          rcases a6.2 with q | q
          · exact q
          · exact q.elim)
      (fun m0 em => by have : P.2.2.2.2.2.2.2 = m0 := Option.some.inj em; rw [← this]; exact v3) c3
    exact key.mono (fun g2 rv hq => convQ (psum g a b) 0 g2 rv hq)
  have loop : ∀ (N n : Nat) (ρc : Nat → Int) (g : cg) (lsc : List (Nat × cv)) (stc : List cv) (d : Nat), aag I.2.2.1.2.2.2.2.1.length ρe ρc → patR h0 tyt (aGSd sv el (gGJ XG fam AT 0)) P ρc g lsc stc none → aInv tyt typs g → (∀ k j : Nat, ¬ awc tyt I.2.2.2.2.2 k j → g k j = g0 k j) → I.2.1 ≤ d → psum g a b < (N : Int) → ev ρc P.2.2.2.2.2.2.2 < (n : Int) → cT G h0 n0 I.1 d pc lsc stc g (cn0 I.1) (sn0 I.1) (aQi h0 tyt typs (aGSd sv el (gGJ XG fam AT 0)) I ρe g0) := by
    intro N
    induction N with
    | zero =>
      intro n ρc g lsc stc d h1 h2 h3 h4 h5 h6 h7
      have := psum_0 (g := g) (k := a) b
      omega
    | succ N ihN =>
      intro n
      induction n with
      | zero =>
        intro ρc g lsc stc d h1 h2 h3 h4 h5 h6 h7
        refine one ρc g lsc stc d h1 h2 h3 h4 h5 (fun ρ2 g' lsc' stc' d' a1 a2 a3 a4 a5 a6 => ?_)
        rcases a6 with a6 | ⟨a6, a7, a8⟩
        · exact ihN ((ev ρ2 P.2.2.2.2.2.2.2).toNat + 1) ρ2 g' lsc' stc' d' a1 a2 a3 a4 a5 (by omega) (by omega)
        · omega
      | succ n ihn =>
        intro ρc g lsc stc d h1 h2 h3 h4 h5 h6 h7
        refine one ρc g lsc stc d h1 h2 h3 h4 h5 (fun ρ2 g' lsc' stc' d' a1 a2 a3 a4 a5 a6 => ?_)
        rcases a6 with a6 | ⟨a6, a7, a8⟩
        · exact ihN ((ev ρ2 P.2.2.2.2.2.2.2).toNat + 1) ρ2 g' lsc' stc' d' a1 a2 a3 a4 a5 (by omega) (by omega)
        · exact ihn ρ2 g' lsc' stc' d' a1 a2 a3 a4 a5 (by omega) (by omega)
  refine arn_ok (hB 0) (ρe := ρe) w1 (Nat.le_refl _) (aag.rf _ _) hpat0 hInv0 (fun _ _ _ => rfl) hd0 (aSMi_ok (hB 0) (i := 0) (fun c J hc => absurd hc (Nat.not_lt_zero c)) (fun c J hc => absurd hc (Nat.not_lt_zero c)) (fun c J hc => absurd hc (Nat.not_lt_zero c))) (fun pc' L' P' hL' hP' ρ2 g' lsc' stc' d' a1 a2 a3 a4 a5 a6 => ?_) (fun m0 em => by cases em) c2
  rw [hI] at hL'
  have hL' : cond (Nat.beq pc pc') (some [P]) none = some L' := hL'
  obtain ⟨l1, l2⟩ := xcnd hL'
  have e1 : pc = pc' := xeqb l1
  subst e1
  have e2 := Option.some.inj l2
  subst e2
  have e3 := List.mem_singleton.mp hP'
  subst e3
  exact loop ((psum g' a b).toNat + 1) ((ev ρ2 P'.2.2.2.2.2.2.2).toNat + 1) ρ2 g' lsc' stc' d' a1 a2 a3 a4 a5 (by omega) (by omega)
/-- all instances, one behind another, one of them shown otherwise -/
theorem ains_all2 {GH : Nat → Nat → Nat → Int → cg → Prop} (hB : aBase sv cd mi df el ec eb G h0 cn0 sn0 tyt typs GH HK HS HA HH HW) {f N i0 : Nat} (hc : ∀ i, i < N → i ≠ i0 → achI h0 tyt typs HK HS HA HH HW cd mi ec eb inl fl spl cand INS f i = true) (hs : ∀ J, xg INS i0 = some J → awfI J = true ∧ aInsOK G h0 n0 cn0 sn0 tyt typs (aGSd sv el GH) J) (hz : ∀ c J, c + 1 < N → xg INS c = some J → cn0 J.1 = 0 ∧ sn0 J.1 = 0) : ∀ i, i < N → ∀ I, xg INS i = some I → aInsOK G h0 n0 cn0 sn0 tyt typs (aGSd sv el GH) I := by
  intro i
  induction i using Nat.strongRecOn with
  | _ i ih =>
    intro hi I hI
    by_cases e : i = i0
    · subst e
      exact (hs I hI).2
    · refine ains_ok hB hI (hc i hi e) (fun c J hci hJ => ?_) (fun c J hci hJ => hz c J (by omega) hJ) (fun c J hci hJ => ih c hci (by omega) J hJ)
      by_cases e2 : c = i0
      · subst e2
        exact (hs J hJ).1
      · have := hc c (by omega) e2
        unfold achI at this
        rw [hJ] at this
        exact (xcnb this).1
end Pot
