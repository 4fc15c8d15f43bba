/-! Ghosts: stores, writes, copies -/
section Gho3
variable {h0 : xheap} {tyt : Lean.RArray (Nat × Nat)} {fam : Lean.RArray (Nat × afam)} {tAT AT : Nat} {sv : Nat → Int32} {el : Nat → Nat} {π : Int}
/-- the number of rows lies beside the rows -/
def gfN (fam : Lean.RArray (Nat × afam)) : Prop := ∀ (f : Nat) (F : afam), xg fam f = some F → (F.2.1.2.1 ≠ F.1.2.1 ∨ F.1.2.2 < F.2.1.2.2.1) ∧ ∀ col ∈ F.2.2.1, col.2.1 ≠ F.1.2.1 ∨ F.1.2.2 < col.2.2.1
noncomputable def ghs1 (fam : Lean.RArray (Nat × afam)) (tAT AT : Nat) (env : aenv) (fx : List ae) (mem : List am) (t : Nat) (c i : ae) (v : av) (x : gho) : Option gho :=
  match x.1 with
  | 1 => (match xg fam x.2.1 with
    | none => none
    | some F => cond (cond (Nat.beq F.1.1 t) (cond (eeqb c ((F.1.2.1 : Int), [])) (eeqb i ((F.1.2.2 : Int), [])) false) false)
        (match gnum env mem F.1.1 F.1.2.1 ((F.1.2.2 : Int), []) with
          | none => none
          | some n => cond (cond (Nat.beq x.2.2.1 0) (cond (eeq env v.2.2 (eadc n 1)) (elef env fx 2 (eadc v.2.2 (-60))) false) false) (some (1, x.2.1, 1, x.2.2.2)) none)
        (cond (gfre env fx mem t c i F x.2.2.1) (some x) none))
  | 2 => cond (Nat.beq t tAT) (match eu env i with
    | none => none
    | some hi => match eu env (escl i (-1)) with
      | none => none
      | some lo => match eu env x.2.2.2 with
        | none => none
        | some u => cond (cond (zlt hi (x.2.2.1 : Int)) true (zle (Int.add (x.2.2.1 : Int) u) (Int.neg lo)))
            (cond (eeq env i (eadc x.2.2.2 (x.2.1 : Int))) (match gnum env mem tAT AT (eadc x.2.2.2 (x.2.2.1 : Int)) with
              | none => none
              | some w => cond (eeq env w v.2.2) (some (2, x.2.1, x.2.2.1, eadc x.2.2.2 1)) none)
              (cond (cond (zlt hi (x.2.1 : Int)) true (zle (Int.add (x.2.1 : Int) u) (Int.neg lo))) (some x) none)) none) (some x)
  | 3 => cond (ene env c ((x.2.1 : Int), [])) (cond (ene env c ((x.2.2.1 : Int), [])) (some x) none) none
  | 4 => cond (ene env c ((x.2.1 : Int), [])) (some x) (cond (eeqb c ((x.2.1 : Int), [])) (match gnum env mem t x.2.1 i with
      | none => none
      | some o => cond (cond (elef env fx 2 (escl o (-1))) (cond (elef env fx 2 (escl v.2.2 (-1))) (elef env fx 2 (eadc i (Int.add 1 (Int.neg (x.2.2.1 : Int))))) false) false) (some (4, x.2.1, x.2.2.1, eadd (eadd x.2.2.2 v.2.2 1) o (-1))) none) none)
  | 50 => some x
  | 51 => some x
  | _ => none
noncomputable def ghsi (fam : Lean.RArray (Nat × afam)) (fids : List Nat) (env : aenv) (fx : List ae) (t : Nat) (c i : ae) (v : av) : List gho :=
  fids.filterMap (fun f => match xg fam f with
    | none => none
    | some F => cond (cond (Nat.beq F.1.1 t) (cond (eeqb c ((F.1.2.1 : Int), [])) (cond (eeqb i ((F.1.2.2 : Int), [])) (elef env fx 2 v.2.2) false) false) false) (some (1, f, 0, (0, []))) none)
noncomputable def gHS (fam : Lean.RArray (Nat × afam)) (fids : List Nat) (tAT AT : Nat) (env : aenv) (fx : List ae) (mem : List am) (gh : List gho) (t : Nat) (c i : ae) (v : av) : List gho :=
  gh.filterMap (ghs1 fam tAT AT env fx mem t c i v) ++ ghsi fam fids env fx t c i v
theorem cup_at {g : cg} {k j : Nat} {z : Int} : cup g k j z k j = z := by unfold cup; rw [if_pos ⟨rfl, rfl⟩]
theorem cup_ne {g : cg} {k j k' j' : Nat} {z : Int} (h : ¬ (k' = k ∧ j' = j)) : cup g k j z k' j' = g k' j' := by unfold cup; rw [if_neg h]
theorem gHS_ok (hT : gfT tyt fam) (hN : gfN fam) (hAT : ∀ k, xg tyt k = some tAT → k = AT) (hAT2 : xg tyt AT = some tAT) {fids : List Nat} : aHS h0 tyt (aGSd sv el (gGH fam AT π)) (gHS fam fids tAT AT) := by
  intro env fx mem gh g ρ t c i v k j hC hc hi ht hcat x hx
  rcases List.mem_append.mp hx with hx | hx
  · obtain ⟨x0, hx0, h⟩ := List.mem_filterMap.mp hx
    have hg := hC.2.2.2 x0 hx0
    obtain ⟨xk, xa, xb, xe⟩ := x0
    unfold ghs1 at h
    dsimp only at h
    split at h
    · have hg : ∀ F, xg fam xa = some F → gRI F xb g := hg
      cases hF : xg fam xa with
      | none => rw [hF] at h; cases h
      | some F =>
        rw [hF] at h
        dsimp only at h
        have hR := hg F hF
        cases h1 : cond (Nat.beq F.1.1 t) (cond (eeqb c ((F.1.2.1 : Int), [])) (eeqb i ((F.1.2.2 : Int), [])) false) false with
        | false =>
          rw [h1] at h
          obtain ⟨h2, h3⟩ := xcnd h
          have e : (1, xa, xb, xe) = x := Option.some.inj h3
          subst e
          intro F' hF'
          have e2 : F' = F := Option.some.inj (hF'.symm.trans hF)
          subst e2
          exact gfre_ok hT hC hF hc hi ht hR h2
        | true =>
          rw [h1] at h
          simp only [cond_true] at h
          obtain ⟨-, h1⟩ := xcnb h1
          obtain ⟨a2, a3⟩ := xcnb h1
          have ek : k = F.1.2.1 := by have := eeqb_ok a2; rw [this, evc] at hc; omega
          have ej : j = F.1.2.2 := by have := eeqb_ok a3; rw [this, evc] at hi; omega
          cases hn : gnum env mem F.1.1 F.1.2.1 ((F.1.2.2 : Int), []) with
          | none => rw [hn] at h; cases h
          | some n =>
            rw [hn] at h
            obtain ⟨h2, h3⟩ := xcnd h
            obtain ⟨b1, h2⟩ := xcnb h2
            obtain ⟨b2, b3⟩ := xcnb h2
            have e : (1, xa, 1, xe) = x := Option.some.inj h3
            subst e
            have b1 : xb = 0 := xeqb b1
            subst b1
            have b2 := eeq_ok hC.1 b2
            rw [eadc_ev] at b2
            have b3 := elef_ok hC.1 hC.2.1 2 _ b3
            rw [eadc_ev] at b3
            obtain ⟨jn, n1, n2, -⟩ := gnum_ok hC hn
            rw [evc] at n1
            have ejn : jn = F.1.2.2 := by omega
            rw [ejn] at n2
            intro F' hF'
            have e2 : F' = F := Option.some.inj (hF'.symm.trans hF)
            subst e2
            subst ek; subst ej
            obtain ⟨m1, m2⟩ := hN xa F' hF
            have hself : cup g F'.1.2.1 F'.1.2.2 (ev ρ v.2.2) F'.1.2.1 F'.1.2.2 = ev ρ v.2.2 := cup_at
            refine ⟨by rw [hself]; omega, fun r hr q hq q1 q2 cc hcc => ?_⟩
            rw [hself] at hr
            have hr : (r : Int) < ev ρ v.2.2 - 1 := hr
            have f1 : ∀ col : afc, (col.2.1 ≠ F'.1.2.1 ∨ F'.1.2.2 < col.2.2.1) → cup g F'.1.2.1 F'.1.2.2 (ev ρ v.2.2) col.2.1 (col.2.2.1 + col.2.2.2 * r) = g col.2.1 (col.2.2.1 + col.2.2.2 * r) := fun col hcol => cup_ne (fun z => by
              rcases hcol with w | w
              · exact w z.1
              · have := z.2; omega)
            rw [f1 _ m1] at q1 q2
            rw [f1 cc (m2 cc (agt_mem hcc))]
            exact hR.2 r (by rw [n2]; omega) q hq q1 q2 cc hcc
    · have hg : ∀ j : Nat, (j : Int) < ev ρ xe → g AT (xa + j) = g AT (xb + j) := hg
      cases h1 : Nat.beq t tAT with
      | false =>
        rw [h1] at h
        have e : (2, xa, xb, xe) = x := Option.some.inj h
        subst e
        show ∀ j' : Nat, (j' : Int) < ev ρ xe → cup g k j (ev ρ v.2.2) AT (xa + j') = cup g k j (ev ρ v.2.2) AT (xb + j')
        intro j' hj'
        by_cases hkA : AT = k
        · subst hkA
          have e3 : t = tAT := Option.some.inj (ht.symm.trans hAT2)
          rw [xnb1 e3] at h1
          cases h1
        · rw [cup_ne (fun z => hkA z.1), cup_ne (fun z => hkA z.1)]
          exact hg j' hj'
      | true =>
        rw [h1] at h
        simp only [cond_true] at h
        have ekA : k = AT := hAT k (by rw [ht]; exact congrArg some (xeqb h1))
        subst ekA
        cases hu : eu env i with
        | none => rw [hu] at h; cases h
        | some hi' =>
          rw [hu] at h
          dsimp only at h
          cases hl : eu env (escl i (-1)) with
          | none => rw [hl] at h; cases h
          | some lo =>
            rw [hl] at h
            dsimp only at h
            cases hE : eu env xe with
            | none => rw [hE] at h; cases h
            | some u =>
              rw [hE] at h
              dsimp only at h
              obtain ⟨h2, h⟩ := xcnd h
              have b1 := eu_ok hC.1 hu
              have b2 := eu_ok hC.1 hl
              rw [escl_ev] at b2
              have b3 := eu_ok hC.1 hE
              have hsrc : ∀ j' : Nat, (j' : Int) < ev ρ xe → xb + j' ≠ j := by
                intro j' hj' e
                rcases xcnt h2 with q | q
                · have := zlt_iff.mp q; omega
                · have q : (xb : Int) + u ≤ -lo := zle_iff.mp q
                  omega
              cases h3 : eeq env i (eadc xe (xa : Int)) with
              | true =>
                rw [h3] at h
                simp only [cond_true] at h
                cases hw : gnum env mem tAT k (eadc xe (xb : Int)) with
                | none => rw [hw] at h; cases h
                | some w =>
                  rw [hw] at h
                  obtain ⟨h4, h5⟩ := xcnd h
                  have e : (2, xa, xb, eadc xe 1) = x := Option.some.inj h5
                  subst e
                  have c1 := eeq_ok hC.1 h3
                  rw [eadc_ev, hi] at c1
                  have c2 := eeq_ok hC.1 h4
                  obtain ⟨jw, w1, w2, -⟩ := gnum_ok hC hw
                  rw [eadc_ev] at w1
                  show ∀ j' : Nat, (j' : Int) < ev ρ (eadc xe 1) → cup g k j (ev ρ v.2.2) k (xa + j') = cup g k j (ev ρ v.2.2) k (xb + j')
                  intro j' hj'
                  rw [eadc_ev] at hj'
                  by_cases hlt : (j' : Int) < ev ρ xe
                  · rw [cup_ne (fun z => by have := z.2; omega), cup_ne (fun z => hsrc j' hlt z.2)]
                    exact hg j' hlt
                  · have e1 : xa + j' = j := by omega
                    have e2 : xb + j' = jw := by omega
                    rw [e1, cup_at, e2]
                    by_cases e3 : jw = j
                    · rw [e3, cup_at]
                    · rw [cup_ne (fun z => e3 z.2), w2, c2]
              | false =>
                rw [h3] at h
                simp only [cond_false] at h
                obtain ⟨h4, h5⟩ := xcnd h
                have e : (2, xa, xb, xe) = x := Option.some.inj h5
                subst e
                show ∀ j' : Nat, (j' : Int) < ev ρ xe → cup g k j (ev ρ v.2.2) k (xa + j') = cup g k j (ev ρ v.2.2) k (xb + j')
                intro j' hj'
                have hdst : xa + j' ≠ j := by
                  intro e
                  rcases xcnt h4 with q | q
                  · have := zlt_iff.mp q; omega
                  · have q : (xa : Int) + u ≤ -lo := zle_iff.mp q
                    omega
                rw [cup_ne (fun z => hdst z.2), cup_ne (fun z => hsrc j' hj' z.2)]
                exact hg j' hj'
    · have hg : ∀ j : Nat, (j : Int) < ev ρ xe → g xa j = g xb j := hg
      obtain ⟨h1, h⟩ := xcnd h
      obtain ⟨h2, h3⟩ := xcnd h
      have e : (3, xa, xb, xe) = x := Option.some.inj h3
      subst e
      have n1 := ene_ok hC.1 h1
      have n2 := ene_ok hC.1 h2
      rw [hc, evc] at n1 n2
      show ∀ j' : Nat, (j' : Int) < ev ρ xe → cup g k j (ev ρ v.2.2) xa j' = cup g k j (ev ρ v.2.2) xb j'
      intro j' hj'
      rw [cup_ne (fun z => n1 (by omega)), cup_ne (fun z => n2 (by omega))]
      exact hg j' hj'
    · have hg : psum g xa xb = π + ev ρ xe := hg
      cases h1 : ene env c ((xa : Int), []) with
      | true =>
        rw [h1] at h
        have e : (4, xa, xb, xe) = x := Option.some.inj h
        subst e
        have n1 := ene_ok hC.1 h1
        rw [hc, evc] at n1
        show psum (cup g k j (ev ρ v.2.2)) xa xb = π + ev ρ xe
        rw [← hg]
        exact psum_cg (fun j' hj' => cup_ne (fun z => n1 (by omega)))
      | false =>
        rw [h1] at h
        simp only [cond_false] at h
        obtain ⟨h2, h⟩ := xcnd h
        have ek : k = xa := by have := eeqb_ok h2; rw [this, evc] at hc; omega
        subst ek
        cases ho : gnum env mem t k i with
        | none => rw [ho] at h; cases h
        | some o =>
          rw [ho] at h
          obtain ⟨h3, h4⟩ := xcnd h
          have e : (4, k, xb, eadd (eadd xe v.2.2 1) o (-1)) = x := Option.some.inj h4
          subst e
          obtain ⟨h5, h3⟩ := xcnb h3
          obtain ⟨h6, h7⟩ := xcnb h3
          have h5 := elef_ok hC.1 hC.2.1 2 _ h5
          have h6 := elef_ok hC.1 hC.2.1 2 _ h6
          have h7 := elef_ok hC.1 hC.2.1 2 _ h7
          rw [escl_ev] at h5 h6
          rw [eadc_ev, hi] at h7
          have h7 : (j : Int) + (1 + -(xb : Int)) ≤ 0 := h7
          obtain ⟨jo, o1, o2, -⟩ := gnum_ok hC ho
          have ej : jo = j := by omega
          subst ej
          show psum (cup g k jo (ev ρ v.2.2)) k xb = π + ev ρ (eadd (eadd xe v.2.2 1) o (-1))
          rw [psum_up (by omega) (by omega) (by omega), eadd_ev, eadd_ev, hg, o2]
          omega
    · have e : (50, xa, xb, xe) = x := Option.some.inj h
      subst e
      exact hg
    · have e : (51, xa, xb, xe) = x := Option.some.inj h
      subst e
      exact hg
    · cases h
  · obtain ⟨f, hf, h⟩ := List.mem_filterMap.mp hx
    cases hF : xg fam f with
    | none => rw [hF] at h; cases h
    | some F =>
      rw [hF] at h
      obtain ⟨h1, h2⟩ := xcnd h
      have e : (1, f, 0, (0, [])) = x := Option.some.inj h2
      subst e
      obtain ⟨-, h1⟩ := xcnb h1
      obtain ⟨a2, h1⟩ := xcnb h1
      obtain ⟨a3, a4⟩ := xcnb h1
      have ek : k = F.1.2.1 := by have := eeqb_ok a2; rw [this, evc] at hc; omega
      have ej : j = F.1.2.2 := by have := eeqb_ok a3; rw [this, evc] at hi; omega
      have a4 := elef_ok hC.1 hC.2.1 2 _ a4
      intro F' hF'
      have e2 : F' = F := Option.some.inj (hF'.symm.trans hF)
      subst e2
      subst ek; subst ej
      refine ⟨by rw [cup_at]; omega, fun r hr => ?_⟩
      rw [cup_at] at hr
      exact absurd hr (by omega)
end Gho3
