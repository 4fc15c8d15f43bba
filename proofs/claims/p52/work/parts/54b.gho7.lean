/-! Ghosts: rows that are as the trays say; zeros: three numbers in one -/
noncomputable def genc (env : aenv) (fx : List ae) (kd a b : Nat) (lo hi o : ae) : List gho := cond (cond (efit env fx lo 0 1048575) (efit env fx (eadc hi 1) 0 1048575) false) (efrc (eadd (eadd lo (eadc hi 1) 1048576) o 1099511627776) (fun E => [(kd, a, b, E)])) []
theorem genc_mem {env : aenv} {fx : List ae} {ρ : Nat → Int} (hE : envR env ρ) (hX : fxR fx ρ) {kd a b : Nat} {lo hi o : ae} {x : gho} (h : x ∈ genc env fx kd a b lo hi o) : ∃ E : ae, x = (kd, a, b, E) ∧ vlo (ev ρ E) = ev ρ lo ∧ vhi (ev ρ E) = ev ρ hi ∧ vof (ev ρ E) = ev ρ o := by
  unfold genc at h
  rw [efrc_eq] at h
  cases h1 : cond (efit env fx lo 0 1048575) (efit env fx (eadc hi 1) 0 1048575) false with
  | false => rw [h1] at h; exact absurd h List.not_mem_nil
  | true =>
    rw [h1] at h
    simp only [cond_true] at h
    obtain ⟨a1, a2⟩ := xcnb h1
    have a1 := efit_ok hE hX a1
    have a2 := efit_ok hE hX a2
    refine ⟨_, List.mem_singleton.mp h, ?_⟩
    have e : ev ρ (eadd (eadd lo (eadc hi 1) 1048576) o 1099511627776) = ev ρ lo + 1048576 * ev ρ (eadc hi 1) + 1099511627776 * ev ρ o := by rw [eadd_ev, eadd_ev]
    obtain ⟨v1, v2, v3⟩ := vdec e a1.1 a1.2 a2.1 a2.2
    rw [eadc_ev] at v2
    exact ⟨v1, by omega, v3⟩
theorem SHV_up {g : cg} {a b k j : Nat} {lo hi o z P lo' hi' : Int} {S : Bool} (h : SHV g a b lo hi o) (hab : a ≠ b) (hk : (k = a ∧ (j : Int) = P ∧ S = false) ∨ (k = b ∧ (j : Int) = o + P ∧ (S = true → ∃ q : Nat, P = (q : Int) ∧ g a q = z))) (hI : ∀ j' : Nat, lo' ≤ (j' : Int) → (j' : Int) < hi' → (lo ≤ (j' : Int) ∧ (j' : Int) < hi ∧ (j' : Int) ≠ P) ∨ ((j' : Int) = P ∧ S = true)) : SHV (cup g k j z) a b lo' hi' o := by
  intro j' p h1 h2 h3
  rcases hI j' h1 h2 with ⟨c1, c2, c3⟩ | ⟨c1, c2⟩
  · have n1 : ¬ (a = k ∧ j' = j) := fun q => by
      rcases hk with ⟨d1, d2, -⟩ | ⟨d1, d2, -⟩
      · have := q.2; omega
      · exact hab (q.1.trans d1)
    have n2 : ¬ (b = k ∧ p = j) := fun q => by
      rcases hk with ⟨d1, d2, -⟩ | ⟨d1, d2, -⟩
      · exact hab (d1.symm.trans q.1.symm)
      · have := q.2; omega
    rw [cup_ne n1, cup_ne n2]
    exact h j' p c1 c2 h3
  · rcases hk with ⟨-, -, d3⟩ | ⟨d1, d2, d3⟩
    · rw [c2] at d3; cases d3
    · obtain ⟨q, q1, q2⟩ := d3 c2
      have ep : p = j := by omega
      have ej : j' = q := by omega
      subst ep; subst ej; subst d1
      rw [cup_at, cup_ne (fun z => hab z.1)]
      exact q2
noncomputable def shs (env : aenv) (fx : List ae) (S : Bool) (x : gho) (lo hi o P : ae) : List gho :=
  cond (cond S (eeq env P hi) false) (genc env fx 5 x.2.1 x.2.2.1 lo (eadc hi 1) o)
  (cond (cond S (eeq env (eadc P 1) lo) false) (genc env fx 5 x.2.1 x.2.2.1 (eadc lo (-1)) hi o)
  (cond (cond (elef env fx 2 (eadc (eadd P lo (-1)) 1)) true (elef env fx 2 (eadd hi P (-1)))) [x]
  (cond S [x]
  (cond (elef env fx 2 (eadd P lo (-1))) (genc env fx 5 x.2.1 x.2.2.1 (eadc lo 1) hi o)
  (cond (elef env fx 2 (eadc (eadd hi P (-1)) (-1))) (genc env fx 5 x.2.1 x.2.2.1 lo (eadc hi (-1)) o)
  (cond (elef env fx 2 (eadd P hi (-1))) (genc env fx 5 x.2.1 x.2.2.1 lo P o) [] ++ cond (elef env fx 2 (eadc (eadd lo P (-1)) (-1))) (genc env fx 5 x.2.1 x.2.2.1 (eadc P 1) hi o) []))))))
section Gho7
variable {h0 : xheap} {tyt : Lean.RArray (Nat × Nat)} {typs : Lean.RArray (Nat × aty)} {fam : Lean.RArray (Nat × afam)} {tAT AT : Nat} {sv : Nat → Int32} {el : Nat → Nat} {π : Int}
theorem shs_ok {env : aenv} {fx : List ae} {ρ : Nat → Int} (hE : envR env ρ) (hX : fxR fx ρ) {a b k j : Nat} {E lo hi o P : ae} {S : Bool} {g : cg} {z : Int} (hd : gdec env fx E = some (lo, hi, o)) (h : SHV g a b (ev ρ lo) (ev ρ hi) (ev ρ o)) (hab : a ≠ b) (hk : (k = a ∧ (j : Int) = ev ρ P ∧ S = false) ∨ (k = b ∧ (j : Int) = ev ρ o + ev ρ P ∧ (S = true → ∃ q : Nat, ev ρ P = (q : Int) ∧ g a q = z))) {y : gho} (hy : y ∈ shs env fx S (5, a, b, E) lo hi o P) : aGSd sv el (gGH fam AT π) y ρ (cup g k j z) := by
  obtain ⟨d1, d2, d3⟩ := gdec_ok hE hX hd
  have fin : ∀ (lo' hi' : ae), y ∈ genc env fx 5 a b lo' hi' o → (∀ j' : Nat, ev ρ lo' ≤ (j' : Int) → (j' : Int) < ev ρ hi' → (ev ρ lo ≤ (j' : Int) ∧ (j' : Int) < ev ρ hi ∧ (j' : Int) ≠ ev ρ P) ∨ ((j' : Int) = ev ρ P ∧ S = true)) → aGSd sv el (gGH fam AT π) y ρ (cup g k j z) := by
    intro lo' hi' hm hI
    obtain ⟨E', e, v1, v2, v3⟩ := genc_mem hE hX hm
    subst e
    show SHV (cup g k j z) a b (vlo (ev ρ E')) (vhi (ev ρ E')) (vof (ev ρ E'))
    rw [v1, v2, v3]
    exact SHV_up h hab hk hI
  have keep : y ∈ [((5, a, b, E) : gho)] → (∀ j' : Nat, ev ρ lo ≤ (j' : Int) → (j' : Int) < ev ρ hi → (ev ρ lo ≤ (j' : Int) ∧ (j' : Int) < ev ρ hi ∧ (j' : Int) ≠ ev ρ P) ∨ ((j' : Int) = ev ρ P ∧ S = true)) → aGSd sv el (gGH fam AT π) y ρ (cup g k j z) := by
    intro hm hI
    have e := List.mem_singleton.mp hm
    subst e
    show SHV (cup g k j z) a b (vlo (ev ρ E)) (vhi (ev ρ E)) (vof (ev ρ E))
    rw [d1, d2, d3]
    exact SHV_up h hab hk hI
  unfold shs at hy
  dsimp only at hy
  cases h1 : cond S (eeq env P hi) false with
  | true =>
    rw [h1] at hy
    simp only [cond_true] at hy
    obtain ⟨s1, s2⟩ := xcnb h1
    have s2 := eeq_ok hE s2
    refine fin _ _ hy (fun j' a1 a2 => ?_)
    rw [eadc_ev] at a2
    by_cases e : (j' : Int) = ev ρ P
    · exact Or.inr ⟨e, s1⟩
    · exact Or.inl ⟨a1, by omega, e⟩
  | false =>
    rw [h1] at hy
    simp only [cond_false] at hy
    cases h2 : cond S (eeq env (eadc P 1) lo) false with
    | true =>
      rw [h2] at hy
      simp only [cond_true] at hy
      obtain ⟨s1, s2⟩ := xcnb h2
      have s2 := eeq_ok hE s2
      rw [eadc_ev] at s2
      refine fin _ _ hy (fun j' a1 a2 => ?_)
      rw [eadc_ev] at a1
      by_cases e : (j' : Int) = ev ρ P
      · exact Or.inr ⟨e, s1⟩
      · exact Or.inl ⟨by omega, a2, e⟩
    | false =>
      rw [h2] at hy
      simp only [cond_false] at hy
      cases h3 : cond (elef env fx 2 (eadc (eadd P lo (-1)) 1)) true (elef env fx 2 (eadd hi P (-1))) with
      | true =>
        rw [h3] at hy
        simp only [cond_true] at hy
        refine keep hy (fun j' a1 a2 => Or.inl ⟨a1, a2, ?_⟩)
        rcases xcnt h3 with q | q
        · have q := elef_ok hE hX 2 _ q
          rw [eadc_ev, eadd_ev] at q
          omega
        · have q := elef_ok hE hX 2 _ q
          rw [eadd_ev] at q
          omega
      | false =>
        rw [h3] at hy
        simp only [cond_false] at hy
        cases hS : S with
        | true =>
          rw [hS] at hy
          simp only [cond_true] at hy
          refine keep hy (fun j' a1 a2 => ?_)
          by_cases e : (j' : Int) = ev ρ P
          · exact Or.inr ⟨e, hS⟩
          · exact Or.inl ⟨a1, a2, e⟩
        | false =>
          rw [hS] at hy
          simp only [cond_false] at hy
          cases h4 : elef env fx 2 (eadd P lo (-1)) with
          | true =>
            rw [h4] at hy
            simp only [cond_true] at hy
            have q := elef_ok hE hX 2 _ h4
            rw [eadd_ev] at q
            refine fin _ _ hy (fun j' a1 a2 => ?_)
            rw [eadc_ev] at a1
            exact Or.inl ⟨by omega, a2, by omega⟩
          | false =>
            rw [h4] at hy
            simp only [cond_false] at hy
            cases h5 : elef env fx 2 (eadc (eadd hi P (-1)) (-1)) with
            | true =>
              rw [h5] at hy
              simp only [cond_true] at hy
              have q := elef_ok hE hX 2 _ h5
              rw [eadc_ev, eadd_ev] at q
              refine fin _ _ hy (fun j' a1 a2 => ?_)
              rw [eadc_ev] at a2
              exact Or.inl ⟨a1, by omega, by omega⟩
            | false =>
              rw [h5] at hy
              simp only [cond_false] at hy
              rcases List.mem_append.mp hy with hy | hy
              · cases h6 : elef env fx 2 (eadd P hi (-1)) with
                | false => rw [h6] at hy; exact absurd hy List.not_mem_nil
                | true =>
                  rw [h6] at hy
                  simp only [cond_true] at hy
                  have q := elef_ok hE hX 2 _ h6
                  rw [eadd_ev] at q
                  exact fin _ _ hy (fun j' a1 a2 => Or.inl ⟨a1, by omega, by omega⟩)
              · cases h6 : elef env fx 2 (eadc (eadd lo P (-1)) (-1)) with
                | false => rw [h6] at hy; exact absurd hy List.not_mem_nil
                | true =>
                  rw [h6] at hy
                  simp only [cond_true] at hy
                  have q := elef_ok hE hX 2 _ h6
                  rw [eadc_ev, eadd_ev] at q
                  refine fin _ _ hy (fun j' a1 a2 => ?_)
                  rw [eadc_ev] at a1
                  exact Or.inl ⟨by omega, a2, by omega⟩
theorem gnuw_ok {GS : gho → (Nat → Int) → cg → Prop} {env : aenv} {fx : List ae} {mem : List am} {gh : List gho} {g : cg} {ρ : Nat → Int} (hC : coR h0 tyt GS env fx mem gh g ρ) {t k : Nat} {i e : ae} (h : gnuw env mem t k i = some e) : ∃ j : Nat, ev ρ i = (j : Int) ∧ g k j = ev ρ e := by
  unfold gnuw at h
  cases ha : amg env t ((k : Int), []) i mem with
  | none => rw [ha] at h; cases h
  | some v =>
    rw [ha] at h
    obtain ⟨h1, h2⟩ := xcnd h
    have h2 : v.2.2 = e := Option.some.inj h2
    obtain ⟨k', j, w, a1, a2, ⟨q, ww, c1, c2, c3⟩, a4, a5⟩ := amg_okT hC.1 hC.2.2.1 ha
    rw [evc] at a1
    have ek : k' = k := by omega
    subst ek
    subst c3
    refine ⟨j, a2, ?_⟩
    have h3 : v.1 = 0 ∨ v.1 = 2 := by
      rcases xcnt h1 with q | q
      · exact Or.inl (xeqb q)
      · exact Or.inr (xeqb q)
    rw [avR_num a4 h3, h2]
/-- a store -/
noncomputable def ghs5 (tyt : Lean.RArray (Nat × Nat)) (env : aenv) (fx : List ae) (mem : List am) (t : Nat) (c i : ae) (v : av) (x : gho) : List gho :=
  match x.1 with
  | 5 => (match xg tyt x.2.1 with
    | none => []
    | some ta => match xg tyt x.2.2.1 with
      | none => []
      | some tb => cond (Nat.beq ta tb) [] (cond (Nat.beq t ta)
          (cond (eeq env c ((x.2.1 : Int), [])) (match gdec env fx x.2.2.2 with
            | none => []
            | some q => shs env fx false x q.1 q.2.1 q.2.2 i) (cond (ene env c ((x.2.1 : Int), [])) [x] []))
          (cond (Nat.beq t tb)
            (cond (eeq env c ((x.2.2.1 : Int), [])) (match gdec env fx x.2.2.2 with
              | none => []
              | some q => efrc (enor env (eadd i q.2.2 (-1))) (fun P => shs env fx (match gnuw env mem ta x.2.1 P with
                | none => false
                | some w => eeq env w v.2.2) x q.1 q.2.1 q.2.2 P)) (cond (ene env c ((x.2.2.1 : Int), [])) [x] [])) [x])))
  | 7 => (match xg tyt x.2.1 with
    | none => []
    | some ta => cond (Nat.beq t ta)
        (cond (eeq env c ((x.2.1 : Int), [])) (match gdec env fx x.2.2.2 with
          | none => []
          | some q => cond (eeq env v.2.2 (0, [])) (cond (eeq env i q.2.1) (genc env fx 7 x.2.1 x.2.2.1 q.1 (eadc q.2.1 1) q.2.2) [x]) (cond (cond (elef env fx 2 (eadc (eadd i q.1 (-1)) 1)) true (elef env fx 2 (eadd q.2.1 i (-1)))) [x] [])) (cond (ene env c ((x.2.1 : Int), [])) [x] [])) [x])
  | _ => []
theorem gkne {k a t ta : Nat} (hk : xg tyt k = some t) (ha : xg tyt a = some ta) (h : Nat.beq t ta = false) : a ≠ k := fun e => by
  rw [e] at ha
  have e2 : t = ta := Option.some.inj (hk.symm.trans ha)
  exact xneb h e2
theorem ghs5_ok {env : aenv} {fx : List ae} {mem : List am} {gh : List gho} {g : cg} {ρ : Nat → Int} (hC : coR h0 tyt (aGSd sv el (gGH fam AT π)) env fx mem gh g ρ) {t : Nat} {c i : ae} {v : av} {k j : Nat} (hc : ev ρ c = (k : Int)) (hi : ev ρ i = (j : Int)) (ht : xg tyt k = some t) {x : gho} (hx : x ∈ gh) {y : gho} (hy : y ∈ ghs5 tyt env fx mem t c i v x) : aGSd sv el (gGH fam AT π) y ρ (cup g k j (ev ρ v.2.2)) := by
  have hG := hC.2.2.2 x hx
  obtain ⟨xk, xa, xb, xe⟩ := x
  unfold ghs5 at hy
  dsimp only at hy
  split at hy
  · have hG : SHV g xa xb (vlo (ev ρ xe)) (vhi (ev ρ xe)) (vof (ev ρ xe)) := hG
    have keep : y ∈ [((5, xa, xb, xe) : gho)] → xa ≠ k → xb ≠ k → aGSd sv el (gGH fam AT π) y ρ (cup g k j (ev ρ v.2.2)) := by
      intro hm n1 n2
      have e := List.mem_singleton.mp hm
      subst e
      show SHV (cup g k j (ev ρ v.2.2)) xa xb (vlo (ev ρ xe)) (vhi (ev ρ xe)) (vof (ev ρ xe))
      intro j' p a1 a2 a3
      rw [cup_ne (fun q => n1 q.1), cup_ne (fun q => n2 q.1)]
      exact hG j' p a1 a2 a3
    cases ha : xg tyt xa with
    | none => rw [ha] at hy; exact absurd hy List.not_mem_nil
    | some ta =>
      rw [ha] at hy
      dsimp only at hy
      cases hb : xg tyt xb with
      | none => rw [hb] at hy; exact absurd hy List.not_mem_nil
      | some tb =>
        rw [hb] at hy
        dsimp only at hy
        cases hab : Nat.beq ta tb with
        | true => rw [hab] at hy; exact absurd hy List.not_mem_nil
        | false =>
          rw [hab] at hy
          simp only [cond_false] at hy
          have nab : xa ≠ xb := fun e => by
            rw [e] at ha
            have e2 : ta = tb := Option.some.inj (ha.symm.trans hb)
            exact xneb hab e2
          cases h1 : Nat.beq t ta with
          | true =>
            rw [h1] at hy
            simp only [cond_true] at hy
            have et : t = ta := xeqb h1
            have nb : xb ≠ k := gkne (tyt := tyt) ht hb (by rw [et]; exact hab)
            cases h2 : eeq env c ((xa : Int), []) with
            | true =>
              rw [h2] at hy
              simp only [cond_true] at hy
              have ek := eeq_ok hC.1 h2
              rw [hc, evc] at ek
              cases hd : gdec env fx xe with
              | none => rw [hd] at hy; exact absurd hy List.not_mem_nil
              | some q =>
                rw [hd] at hy
                dsimp only at hy
                obtain ⟨d1, d2, d3⟩ := gdec_ok hC.1 hC.2.1 hd
                rw [d1, d2, d3] at hG
                exact shs_ok hC.1 hC.2.1 hd hG nab (Or.inl ⟨by omega, hi.symm, rfl⟩) hy
            | false =>
              rw [h2] at hy
              simp only [cond_false] at hy
              cases h3 : ene env c ((xa : Int), []) with
              | false => rw [h3] at hy; exact absurd hy List.not_mem_nil
              | true =>
                rw [h3] at hy
                simp only [cond_true] at hy
                have n1 := ene_ok hC.1 h3
                rw [hc, evc] at n1
                exact keep hy (fun e => n1 (by omega)) nb
          | false =>
            rw [h1] at hy
            simp only [cond_false] at hy
            have na : xa ≠ k := gkne (tyt := tyt) ht ha h1
            cases h2 : Nat.beq t tb with
            | false =>
              rw [h2] at hy
              simp only [cond_false] at hy
              exact keep hy na (gkne (tyt := tyt) ht hb h2)
            | true =>
              rw [h2] at hy
              simp only [cond_true] at hy
              cases h3 : eeq env c ((xb : Int), []) with
              | true =>
                rw [h3] at hy
                simp only [cond_true] at hy
                have ek := eeq_ok hC.1 h3
                rw [hc, evc] at ek
                cases hd : gdec env fx xe with
                | none => rw [hd] at hy; exact absurd hy List.not_mem_nil
                | some q =>
                  obtain ⟨ql, qh, qo⟩ := q
                  rw [hd] at hy
                  dsimp only at hy
                  rw [efrc_eq] at hy
                  obtain ⟨d1, d2, d3⟩ := gdec_ok hC.1 hC.2.1 hd
                  dsimp only at d1 d2 d3
                  rw [d1, d2, d3] at hG
                  have eP := enor_ok hC.1 (eadd i qo (-1))
                  rw [eadd_ev, hi] at eP
                  refine shs_ok hC.1 hC.2.1 hd hG nab (Or.inr ⟨by omega, by omega, fun hS => ?_⟩) hy
                  cases hw : gnuw env mem ta xa (enor env (eadd i qo (-1))) with
                  | none => rw [hw] at hS; cases hS
                  | some w =>
                    rw [hw] at hS
                    obtain ⟨jw, w1, w2⟩ := gnuw_ok hC hw
                    exact ⟨jw, w1, by rw [w2]; exact eeq_ok hC.1 hS⟩
              | false =>
                rw [h3] at hy
                simp only [cond_false] at hy
                cases h4 : ene env c ((xb : Int), []) with
                | false => rw [h4] at hy; exact absurd hy List.not_mem_nil
                | true =>
                  rw [h4] at hy
                  simp only [cond_true] at hy
                  have n1 := ene_ok hC.1 h4
                  rw [hc, evc] at n1
                  exact keep hy na (fun e => n1 (by omega))
  · have hG : ZV g xa (vlo (ev ρ xe)) (vhi (ev ρ xe)) := hG
    have keep : y ∈ [((7, xa, xb, xe) : gho)] → (∀ j' : Nat, vlo (ev ρ xe) ≤ (j' : Int) → (j' : Int) < vhi (ev ρ xe) → (xa = k ∧ j' = j) → ev ρ v.2.2 = 0) → aGSd sv el (gGH fam AT π) y ρ (cup g k j (ev ρ v.2.2)) := by
      intro hm hz
      have e := List.mem_singleton.mp hm
      subst e
      show ZV (cup g k j (ev ρ v.2.2)) xa (vlo (ev ρ xe)) (vhi (ev ρ xe))
      intro j' a1 a2
      by_cases e : xa = k ∧ j' = j
      · rw [e.1, e.2, cup_at]
        exact hz j' a1 a2 e
      · rw [cup_ne e]
        exact hG j' a1 a2
    cases ha : xg tyt xa with
    | none => rw [ha] at hy; exact absurd hy List.not_mem_nil
    | some ta =>
      rw [ha] at hy
      dsimp only at hy
      cases h1 : Nat.beq t ta with
      | false =>
        rw [h1] at hy
        simp only [cond_false] at hy
        exact keep hy (fun j' _ _ e => absurd e.1 (gkne (tyt := tyt) ht ha h1))
      | true =>
        rw [h1] at hy
        simp only [cond_true] at hy
        cases h2 : eeq env c ((xa : Int), []) with
        | false =>
          rw [h2] at hy
          simp only [cond_false] at hy
          cases h3 : ene env c ((xa : Int), []) with
          | false => rw [h3] at hy; exact absurd hy List.not_mem_nil
          | true =>
            rw [h3] at hy
            simp only [cond_true] at hy
            have n1 := ene_ok hC.1 h3
            rw [hc, evc] at n1
            exact keep hy (fun j' _ _ e => absurd e.1 (fun e => n1 (by omega)))
        | true =>
          rw [h2] at hy
          simp only [cond_true] at hy
          have ek := eeq_ok hC.1 h2
          rw [hc, evc] at ek
          cases hd : gdec env fx xe with
          | none => rw [hd] at hy; exact absurd hy List.not_mem_nil
          | some q =>
            rw [hd] at hy
            dsimp only at hy
            obtain ⟨d1, d2, d3⟩ := gdec_ok hC.1 hC.2.1 hd
            cases h3 : eeq env v.2.2 (0, []) with
            | true =>
              rw [h3] at hy
              simp only [cond_true] at hy
              have ez := eeq_ok hC.1 h3
              rw [evc] at ez
              cases h4 : eeq env i q.2.1 with
              | false =>
                rw [h4] at hy
                simp only [cond_false] at hy
                exact keep hy (fun _ _ _ _ => ez)
              | true =>
                rw [h4] at hy
                simp only [cond_true] at hy
                have eh := eeq_ok hC.1 h4
                obtain ⟨E', e, v1, v2, v3⟩ := genc_mem hC.1 hC.2.1 hy
                subst e
                show ZV (cup g k j (ev ρ v.2.2)) xa (vlo (ev ρ E')) (vhi (ev ρ E'))
                rw [v1, v2, eadc_ev]
                intro j' a1 a2
                by_cases e : xa = k ∧ j' = j
                · rw [e.1, e.2, cup_at]
                  exact ez
                · rw [cup_ne e]
                  refine hG j' (by omega) ?_
                  have : j' ≠ j := fun z => e ⟨by omega, z⟩
                  omega
            | false =>
              rw [h3] at hy
              simp only [cond_false] at hy
              cases h4 : cond (elef env fx 2 (eadc (eadd i q.1 (-1)) 1)) true (elef env fx 2 (eadd q.2.1 i (-1))) with
              | false => rw [h4] at hy; exact absurd hy List.not_mem_nil
              | true =>
                rw [h4] at hy
                simp only [cond_true] at hy
                refine keep hy (fun j' a1 a2 e => ?_)
                have ej := e.2
                rcases xcnt h4 with w | w
                · have w := elef_ok hC.1 hC.2.1 2 _ w
                  rw [eadc_ev, eadd_ev] at w
                  omega
                · have w := elef_ok hC.1 hC.2.1 2 _ w
                  rw [eadd_ev] at w
                  omega
  · exact absurd hy List.not_mem_nil
/-- a call's writes -/
def gwt (w : awr) (t k : Nat) : Bool := cond (Nat.beq w.1 t) (match w.2.1 with
    | none => false
    | some c => !(Nat.beq c k)) true
theorem gwt_ok {wr : List awr} {t k : Nat} (ht : xg tyt k = some t) (h : wr.all (fun w => gwt w t k) = true) (j : Nat) : ¬ awc tyt wr k j := by
  intro ⟨w, hw, c1, c2, c3, c4⟩
  have h := List.all_eq_true.mp h w hw
  unfold gwt at h
  have e : w.1 = t := Option.some.inj (c1.symm.trans ht)
  rw [xnb1 e] at h
  simp only [cond_true] at h
  split at h
  · cases h
  · rename_i c hc
    rw [xnb1 (c2 c hc).symm] at h
    cases h
noncomputable def gwl (env : aenv) (fx : List ae) (wr : List awr) (t k : Nat) (lo hi : ae) : Bool := match ebd env fx lo with
  | none => false
  | some l => match ebd env fx hi with
    | none => false
    | some u => wr.all (fun w => gwc w t k l.1 (Int.add u.2 (-1)))
theorem gwl_ok {env : aenv} {fx : List ae} {ρ : Nat → Int} (hE : envR env ρ) (hX : fxR fx ρ) {wr : List awr} {t k : Nat} {lo hi : ae} (ht : xg tyt k = some t) (h : gwl env fx wr t k lo hi = true) {j : Nat} (h1 : ev ρ lo ≤ (j : Int)) (h2 : (j : Int) < ev ρ hi) : ¬ awc tyt wr k j := by
  unfold gwl at h
  cases hl : ebd env fx lo with
  | none => rw [hl] at h; cases h
  | some l =>
    rw [hl] at h
    dsimp only at h
    cases hu : ebd env fx hi with
    | none => rw [hu] at h; cases h
    | some u =>
      rw [hu] at h
      dsimp only at h
      have a1 := ebd_ok hE hX hl
      have a2 := ebd_ok hE hX hu
      exact gwc_ok ht h (by omega) (by show (j : Int) ≤ u.2 + -1; omega)
noncomputable def ghw5 (tyt : Lean.RArray (Nat × Nat)) (env : aenv) (fx : List ae) (wr : List awr) (x : gho) : Bool :=
  match x.1 with
  | 5 => (match xg tyt x.2.1 with
    | none => false
    | some ta => match xg tyt x.2.2.1 with
      | none => false
      | some tb => cond (cond (wr.all (fun w => gwt w ta x.2.1)) (wr.all (fun w => gwt w tb x.2.2.1)) false) true
          (match gdec env fx x.2.2.2 with
            | none => false
            | some q => cond (gwl env fx wr ta x.2.1 q.1 q.2.1) (efrc (eadd q.1 q.2.2 1) (fun l => efrc (eadd q.2.1 q.2.2 1) (fun u => gwl env fx wr tb x.2.2.1 l u))) false))
  | 7 => (match xg tyt x.2.1 with
    | none => false
    | some ta => cond (wr.all (fun w => gwt w ta x.2.1)) true
          (match gdec env fx x.2.2.2 with
            | none => false
            | some q => gwl env fx wr ta x.2.1 q.1 q.2.1))
  | _ => false
theorem ghw5_ok {env : aenv} {fx : List ae} {mem : List am} {gh : List gho} {g g' : cg} {ρ : Nat → Int} (hC : coR h0 tyt (aGSd sv el (gGH fam AT π)) env fx mem gh g ρ) {wr : List awr} (hg : ∀ k j : Nat, ¬ awc tyt wr k j → g' k j = g k j) {x : gho} (hx : x ∈ gh) (h : ghw5 tyt env fx wr x = true) : aGSd sv el (gGH fam AT π) x ρ g' := by
  have hG := hC.2.2.2 x hx
  obtain ⟨xk, xa, xb, xe⟩ := x
  unfold ghw5 at h
  dsimp only at h
  split at h
  · have hG : SHV g xa xb (vlo (ev ρ xe)) (vhi (ev ρ xe)) (vof (ev ρ xe)) := hG
    show SHV g' xa xb (vlo (ev ρ xe)) (vhi (ev ρ xe)) (vof (ev ρ xe))
    cases ha : xg tyt xa with
    | none => rw [ha] at h; cases h
    | some ta =>
      rw [ha] at h
      dsimp only at h
      cases hb : xg tyt xb with
      | none => rw [hb] at h; cases h
      | some tb =>
        rw [hb] at h
        dsimp only at h
        rcases xcnt h with h | h
        · obtain ⟨h1, h2⟩ := xcnb h
          intro j p a1 a2 a3
          rw [hg _ _ (gwt_ok ha h1 j), hg _ _ (gwt_ok hb h2 p)]
          exact hG j p a1 a2 a3
        · cases hd : gdec env fx xe with
          | none => rw [hd] at h; cases h
          | some q =>
            rw [hd] at h
            obtain ⟨h1, h2⟩ := xcnb h
            rw [efrc_eq, efrc_eq] at h2
            obtain ⟨d1, d2, d3⟩ := gdec_ok hC.1 hC.2.1 hd
            intro j p a1 a2 a3
            rw [hg _ _ (gwl_ok hC.1 hC.2.1 ha h1 (by omega) (by omega)), hg _ _ (gwl_ok hC.1 hC.2.1 hb h2 (by rw [eadd_ev]; omega) (by rw [eadd_ev]; omega))]
            exact hG j p a1 a2 a3
  · have hG : ZV g xa (vlo (ev ρ xe)) (vhi (ev ρ xe)) := hG
    show ZV g' xa (vlo (ev ρ xe)) (vhi (ev ρ xe))
    cases ha : xg tyt xa with
    | none => rw [ha] at h; cases h
    | some ta =>
      rw [ha] at h
      dsimp only at h
      rcases xcnt h with h | h
      · intro j a1 a2
        rw [hg _ _ (gwt_ok ha h j)]
        exact hG j a1 a2
      · cases hd : gdec env fx xe with
        | none => rw [hd] at h; cases h
        | some q =>
          rw [hd] at h
          dsimp only at h
          obtain ⟨d1, d2, d3⟩ := gdec_ok hC.1 hC.2.1 hd
          intro j a1 a2
          rw [hg _ _ (gwl_ok hC.1 hC.2.1 ha h (by omega) (by omega))]
          exact hG j a1 a2
  · cases h
/-- a copy -/
noncomputable def gha5 (tyt : Lean.RArray (Nat × Nat)) (env : aenv) (fx : List ae) (tb : Nat) (ca cb sp dp m : ae) (x : gho) : List gho :=
  match x.1 with
  | 5 => (match xg tyt x.2.1 with
    | none => []
    | some ta => match xg tyt x.2.2.1 with
      | none => []
      | some tt => cond (Nat.beq tb tt) [] (cond (Nat.beq tb ta)
          (cond (ene env cb ((x.2.1 : Int), [])) [x] [] ++ (match gdec env fx x.2.2.2 with
            | none => []
            | some q => cond (eeq env cb ((x.2.1 : Int), []))
                (cond (elef env fx 2 (eadd dp q.2.1 (-1))) (genc env fx 5 x.2.1 x.2.2.1 q.1 dp q.2.2) (cond (elef env fx 2 (eadd q.2.1 dp (-1))) [x] [])
                  ++ efrc (eadd dp m 1) (fun e => cond (elef env fx 2 (eadd q.1 e (-1))) (genc env fx 5 x.2.1 x.2.2.1 e q.2.1 q.2.2) (cond (elef env fx 2 (eadd e q.1 (-1))) [x] []))) []
              ++ cond (eeq env ca ((x.2.1 : Int), [])) (match (enor env cb).2 with
                | [] => cond (cond (elef env fx 2 (eadd q.1 sp (-1))) (elef env fx 2 (eadd (eadd sp m 1) q.2.1 (-1))) false) (efrc (enor env (eadd (eadd q.2.2 sp 1) dp (-1))) (fun o => efrc (eadd dp m 1) (fun e => genc env fx 5 (enor env cb).1.toNat x.2.2.1 dp e o))) []
                | _ => []) [])) [x]))
  | 7 => cond (ene env cb ((x.2.1 : Int), [])) [x] []
  | _ => []
theorem gha5_ok {env : aenv} {fx : List ae} {mem : List am} {gh : List gho} {g : cg} {ρ : Nat → Int} (hC : coR h0 tyt (aGSd sv el (gGH fam AT π)) env fx mem gh g ρ) {tb : Nat} {ca cb sp dp m : ae} {ka kb s d n : Nat} (hca : ev ρ ca = (ka : Int)) (hcb : ev ρ cb = (kb : Int)) (htb : xg tyt kb = some tb) (hsp : ev ρ sp = (s : Int)) (hdp : ev ρ dp = (d : Int)) (hm : ev ρ m = (n : Int)) {x : gho} (hx : x ∈ gh) {y : gho} (hy : y ∈ gha5 tyt env fx tb ca cb sp dp m x) : aGSd sv el (gGH fam AT π) y ρ (ccp g ka kb s d n) := by
  have ne : ∀ (k' j' : Nat), k' ≠ kb → ccp g ka kb s d n k' j' = g k' j' := fun k' j' hk => by unfold ccp; rw [if_neg (fun z => hk z.1)]
  have out : ∀ (k' j' : Nat), ¬ (d ≤ j' ∧ j' < d + n) → ccp g ka kb s d n k' j' = g k' j' := fun k' j' hk => by unfold ccp; rw [if_neg (fun z => hk z.2)]
  have nk : ∀ q : Nat, ene env cb ((q : Int), []) = true → q ≠ kb := fun q hq => by
    have := ene_ok hC.1 hq
    rw [hcb, evc] at this
    intro e
    exact this (by omega)
  have hG := hC.2.2.2 x hx
  obtain ⟨xk, xa, xb, xe⟩ := x
  unfold gha5 at hy
  dsimp only at hy
  split at hy
  · have hG : SHV g xa xb (vlo (ev ρ xe)) (vhi (ev ρ xe)) (vof (ev ρ xe)) := hG
    cases ha : xg tyt xa with
    | none => rw [ha] at hy; exact absurd hy List.not_mem_nil
    | some ta =>
      rw [ha] at hy
      dsimp only at hy
      cases hb : xg tyt xb with
      | none => rw [hb] at hy; exact absurd hy List.not_mem_nil
      | some tt =>
        rw [hb] at hy
        dsimp only at hy
        cases h1 : Nat.beq tb tt with
        | true => rw [h1] at hy; exact absurd hy List.not_mem_nil
        | false =>
          rw [h1] at hy
          simp only [cond_false] at hy
          have nb : xb ≠ kb := gkne (tyt := tyt) htb hb h1
          have keep : y ∈ [((5, xa, xb, xe) : gho)] → (xa = kb → ∀ j' : Nat, vlo (ev ρ xe) ≤ (j' : Int) → (j' : Int) < vhi (ev ρ xe) → ¬ (d ≤ j' ∧ j' < d + n)) → aGSd sv el (gGH fam AT π) y ρ (ccp g ka kb s d n) := by
            intro hm' hq
            have e := List.mem_singleton.mp hm'
            subst e
            show SHV (ccp g ka kb s d n) xa xb (vlo (ev ρ xe)) (vhi (ev ρ xe)) (vof (ev ρ xe))
            intro j' p a1 a2 a3
            rw [ne xb p nb]
            by_cases e : xa = kb
            · rw [out xa j' (hq e j' a1 a2)]
              exact hG j' p a1 a2 a3
            · rw [ne xa j' e]
              exact hG j' p a1 a2 a3
          cases h2 : Nat.beq tb ta with
          | false =>
            rw [h2] at hy
            simp only [cond_false] at hy
            exact keep hy (fun e => absurd e (gkne (tyt := tyt) htb ha h2))
          | true =>
            rw [h2] at hy
            simp only [cond_true] at hy
            rcases List.mem_append.mp hy with hy | hy
            · cases h3 : ene env cb ((xa : Int), []) with
              | false => rw [h3] at hy; exact absurd hy List.not_mem_nil
              | true =>
                rw [h3] at hy
                simp only [cond_true] at hy
                exact keep hy (fun e => absurd e (nk _ h3))
            · cases hd : gdec env fx xe with
              | none => rw [hd] at hy; exact absurd hy List.not_mem_nil
              | some q =>
                rw [hd] at hy
                dsimp only at hy
                obtain ⟨d1, d2, d3⟩ := gdec_ok hC.1 hC.2.1 hd
                rcases List.mem_append.mp hy with hy | hy
                · cases h3 : eeq env cb ((xa : Int), []) with
                  | false => rw [h3] at hy; exact absurd hy List.not_mem_nil
                  | true =>
                    rw [h3] at hy
                    simp only [cond_true] at hy
                    rw [efrc_eq] at hy
                    have ek := eeq_ok hC.1 h3
                    rw [hcb, evc] at ek
                    have piece : ∀ (lo' hi' : ae), y ∈ genc env fx 5 xa xb lo' hi' q.2.2 → (∀ j' : Nat, ev ρ lo' ≤ (j' : Int) → (j' : Int) < ev ρ hi' → (ev ρ q.1 ≤ (j' : Int) ∧ (j' : Int) < ev ρ q.2.1 ∧ ¬ (d ≤ j' ∧ j' < d + n))) → aGSd sv el (gGH fam AT π) y ρ (ccp g ka kb s d n) := by
                      intro lo' hi' hm' hI
                      obtain ⟨E', e, v1, v2, v3⟩ := genc_mem hC.1 hC.2.1 hm'
                      subst e
                      show SHV (ccp g ka kb s d n) xa xb (vlo (ev ρ E')) (vhi (ev ρ E')) (vof (ev ρ E'))
                      rw [v1, v2, v3]
                      intro j' p a1 a2 a3
                      obtain ⟨b1, b2, b3⟩ := hI j' a1 a2
                      rw [ne xb p nb, out xa j' b3]
                      exact hG j' p (by omega) (by omega) (by omega)
                    rcases List.mem_append.mp hy with hy | hy
                    · cases h4 : elef env fx 2 (eadd dp q.2.1 (-1)) with
                      | true =>
                        rw [h4] at hy
                        simp only [cond_true] at hy
                        have w := elef_ok hC.1 hC.2.1 2 _ h4
                        rw [eadd_ev] at w
                        exact piece _ _ hy (fun j' a1 a2 => ⟨a1, by omega, by omega⟩)
                      | false =>
                        rw [h4] at hy
                        simp only [cond_false] at hy
                        cases h5 : elef env fx 2 (eadd q.2.1 dp (-1)) with
                        | false => rw [h5] at hy; exact absurd hy List.not_mem_nil
                        | true =>
                          rw [h5] at hy
                          simp only [cond_true] at hy
                          have w := elef_ok hC.1 hC.2.1 2 _ h5
                          rw [eadd_ev] at w
                          exact keep hy (fun _ j' a1 a2 => by omega)
                    · cases h4 : elef env fx 2 (eadd q.1 (eadd dp m 1) (-1)) with
                      | true =>
                        rw [h4] at hy
                        simp only [cond_true] at hy
                        have w := elef_ok hC.1 hC.2.1 2 _ h4
                        rw [eadd_ev, eadd_ev] at w
                        refine piece _ _ hy (fun j' a1 a2 => ?_)
                        rw [eadd_ev] at a1
                        exact ⟨by omega, a2, by omega⟩
                      | false =>
                        rw [h4] at hy
                        simp only [cond_false] at hy
                        cases h5 : elef env fx 2 (eadd (eadd dp m 1) q.1 (-1)) with
                        | false => rw [h5] at hy; exact absurd hy List.not_mem_nil
                        | true =>
                          rw [h5] at hy
                          simp only [cond_true] at hy
                          have w := elef_ok hC.1 hC.2.1 2 _ h5
                          rw [eadd_ev, eadd_ev] at w
                          exact keep hy (fun _ j' a1 a2 => by omega)
                · cases h3 : eeq env ca ((xa : Int), []) with
                  | false => rw [h3] at hy; exact absurd hy List.not_mem_nil
                  | true =>
                    rw [h3] at hy
                    simp only [cond_true] at hy
                    have ek := eeq_ok hC.1 h3
                    rw [hca, evc] at ek
                    split at hy
                    · rename_i hnil
                      have ekb := enor_c hC.1 hnil
                      cases h4 : cond (elef env fx 2 (eadd q.1 sp (-1))) (elef env fx 2 (eadd (eadd sp m 1) q.2.1 (-1))) false with
                      | false => rw [h4] at hy; exact absurd hy List.not_mem_nil
                      | true =>
                        rw [h4] at hy
                        simp only [cond_true] at hy
                        rw [efrc_eq, efrc_eq] at hy
                        obtain ⟨w1, w2⟩ := xcnb h4
                        have w1 := elef_ok hC.1 hC.2.1 2 _ w1
                        have w2 := elef_ok hC.1 hC.2.1 2 _ w2
                        rw [eadd_ev] at w1
                        rw [eadd_ev, eadd_ev] at w2
                        obtain ⟨E', e, v1, v2, v3⟩ := genc_mem hC.1 hC.2.1 hy
                        subst e
                        have ekk : (enor env cb).1.toNat = kb := by omega
                        rw [ekk]
                        show SHV (ccp g ka kb s d n) kb xb (vlo (ev ρ E')) (vhi (ev ρ E')) (vof (ev ρ E'))
                        rw [v1, v2, v3, enor_ok hC.1, eadd_ev, eadd_ev, eadd_ev]
                        intro j' p a1 a2 a3
                        rw [ne xb p nb]
                        have ein : ccp g ka kb s d n kb j' = g ka (s + (j' - d)) := by
                          unfold ccp
                          rw [if_pos ⟨rfl, by omega, by omega⟩]
                        have eka : ka = xa := by omega
                        rw [ein, eka]
                        exact hG (s + (j' - d)) p (by omega) (by omega) (by omega)
                    · exact absurd hy List.not_mem_nil
  · have hG : ZV g xa (vlo (ev ρ xe)) (vhi (ev ρ xe)) := hG
    cases h3 : ene env cb ((xa : Int), []) with
    | false => rw [h3] at hy; exact absurd hy List.not_mem_nil
    | true =>
      rw [h3] at hy
      simp only [cond_true] at hy
      have e := List.mem_singleton.mp hy
      subst e
      show ZV (ccp g ka kb s d n) xa (vlo (ev ρ xe)) (vhi (ev ρ xe))
      intro j' a1 a2
      rw [ne _ _ (nk _ h3)]
      exact hG j' a1 a2
  · exact absurd hy List.not_mem_nil
theorem gpcs_ok {env : aenv} {fx : List ae} {ρ : Nat → Int} (hE : envR env ρ) (hX : fxR fx ρ) {a b : Nat} {o : ae} {g : cg} : ∀ (gh : List gho), ghR (aGSd sv el (gGH fam AT π)) gh ρ g → ∀ q ∈ gpcs env fx a b o gh, SHV g a b (ev ρ q.1) (ev ρ q.2) (ev ρ o)
  | [], _, q, hq => absurd hq List.not_mem_nil
  | y :: l, hR, q, hq => by
    have hl : ghR (aGSd sv el (gGH fam AT π)) l ρ g := fun z hz => hR z (List.mem_cons_of_mem _ hz)
    have hG := hR y List.mem_cons_self
    unfold gpcs at hq
    cases h1 : cond (Nat.beq y.1 5) (cond (Nat.beq y.2.1 a) (Nat.beq y.2.2.1 b) false) false with
    | false => rw [h1] at hq; exact gpcs_ok hE hX l hl q hq
    | true =>
      rw [h1] at hq
      simp only [cond_true] at hq
      obtain ⟨y1, h1⟩ := xcnb h1
      obtain ⟨y2, y3⟩ := xcnb h1
      obtain ⟨yk, ya, yb, ye⟩ := y
      have e1 : yk = 5 := xeqb y1
      have e2 : ya = a := xeqb y2
      have e3 : yb = b := xeqb y3
      subst e1; subst e2; subst e3
      have hG : SHV g ya yb (vlo (ev ρ ye)) (vhi (ev ρ ye)) (vof (ev ρ ye)) := hG
      cases hd : gdec env fx ye with
      | none =>
        have hq : q ∈ (match gdec env fx ye with
          | none => gpcs env fx ya yb o l
          | some q => cond (eeq env q.2.2 o) ((q.1, q.2.1) :: gpcs env fx ya yb o l) (gpcs env fx ya yb o l)) := hq
        rw [hd] at hq
        exact gpcs_ok hE hX l hl q hq
      | some w =>
        have hq : q ∈ (match gdec env fx ye with
          | none => gpcs env fx ya yb o l
          | some q => cond (eeq env q.2.2 o) ((q.1, q.2.1) :: gpcs env fx ya yb o l) (gpcs env fx ya yb o l)) := hq
        rw [hd] at hq
        dsimp only at hq
        cases h2 : eeq env w.2.2 o with
        | false => rw [h2] at hq; exact gpcs_ok hE hX l hl q hq
        | true =>
          rw [h2] at hq
          simp only [cond_true] at hq
          rcases List.mem_cons.mp hq with e | hq
          · obtain ⟨d1, d2, d3⟩ := gdec_ok hE hX hd
            have e4 := eeq_ok hE h2
            rw [d1, d2, d3, e4] at hG
            rw [e]
            exact hG
          · exact gpcs_ok hE hX l hl q hq
/-- zeros from lo to hi are there -/
noncomputable def gzr (env : aenv) (fx : List ae) (gh : List gho) (a : Nat) (lo hi : ae) : Bool :=
  gh.any (fun y => cond (cond (Nat.beq y.1 7) (Nat.beq y.2.1 a) false) (match gdec env fx y.2.2.2 with
    | none => false
    | some q => cond (elef env fx 2 (eadd q.1 lo (-1))) (elef env fx 2 (eadd hi q.2.1 (-1))) false) false)
theorem gzr_ok {env : aenv} {fx : List ae} {mem : List am} {gh : List gho} {g : cg} {ρ : Nat → Int} (hC : coR h0 tyt (aGSd sv el (gGH fam AT π)) env fx mem gh g ρ) {a : Nat} {lo hi : ae} (h : gzr env fx gh a lo hi = true) : ZV g a (ev ρ lo) (ev ρ hi) := by
  obtain ⟨y, hy, h⟩ := List.any_eq_true.mp h
  obtain ⟨h1, h2⟩ := xcnb h
  obtain ⟨y1, y2⟩ := xcnb h1
  have hG := hC.2.2.2 y hy
  obtain ⟨yk, ya, yb, ye⟩ := y
  have e1 : yk = 7 := xeqb y1
  have e2 : ya = a := xeqb y2
  subst e1; subst e2
  have hG : ZV g ya (vlo (ev ρ ye)) (vhi (ev ρ ye)) := hG
  have h : (match gdec env fx ye with
    | none => false
    | some q => cond (elef env fx 2 (eadd q.1 lo (-1))) (elef env fx 2 (eadd hi q.2.1 (-1))) false) = true := h2
  cases hd : gdec env fx ye with
  | none => rw [hd] at h; cases h
  | some q =>
    rw [hd] at h
    obtain ⟨a1, a2⟩ := xcnb h
    have a1 := elef_ok hC.1 hC.2.1 2 _ a1
    have a2 := elef_ok hC.1 hC.2.1 2 _ a2
    rw [eadd_ev] at a1 a2
    obtain ⟨d1, d2, d3⟩ := gdec_ok hC.1 hC.2.1 hd
    intro j b1 b2
    exact hG j (by omega) (by omega)
/-- is it there, or does it follow -/
noncomputable def ghh5 (env : aenv) (fx : List ae) (gh : List gho) (x : gho) : Bool :=
  cond (gh.any (fun y => cond (Nat.beq y.1 x.1) (cond (Nat.beq y.2.1 x.2.1) (cond (Nat.beq y.2.2.1 x.2.2.1) (eeq env y.2.2.2 x.2.2.2) false) false) false)) true
    (match gdec env fx x.2.2.2 with
      | none => false
      | some q => cond (elef env fx 2 (eadd q.2.1 q.1 (-1))) true (cond (Nat.beq x.1 5)
          (cond (gcov env fx (gpcs env fx x.2.1 x.2.2.1 q.2.2 gh) q.2.1 3 q.1) true (cond (gzr env fx gh x.2.1 q.1 q.2.1) (gzr env fx gh x.2.2.1 (eadd q.1 q.2.2 1) (eadd q.2.1 q.2.2 1)) false))
          (gzr env fx gh x.2.1 q.1 q.2.1)))
theorem ghh5_ok {env : aenv} {fx : List ae} {mem : List am} {gh : List gho} {g : cg} {ρ : Nat → Int} (hC : coR h0 tyt (aGSd sv el (gGH fam AT π)) env fx mem gh g ρ) {x : gho} (hx : x.1 = 5 ∨ x.1 = 7) (h : ghh5 env fx gh x = true) : aGSd sv el (gGH fam AT π) x ρ g := by
  obtain ⟨xk, xa, xb, xe⟩ := x
  unfold ghh5 at h
  dsimp only at h
  rcases xcnt h with h | h
  · obtain ⟨y, hy, h⟩ := List.any_eq_true.mp h
    obtain ⟨y1, h⟩ := xcnb h
    obtain ⟨y2, h⟩ := xcnb h
    obtain ⟨y3, hE⟩ := xcnb h
    have hG := hC.2.2.2 y hy
    obtain ⟨yk, ya, yb, ye⟩ := y
    have e1 : yk = xk := xeqb y1
    have e2 : ya = xa := xeqb y2
    have e3 : yb = xb := xeqb y3
    subst e1; subst e2; subst e3
    have e : ev ρ ye = ev ρ xe := eeq_ok hC.1 hE
    rcases hx with z | z
    · have z : yk = 5 := z
      subst z
      have hG : SHV g ya yb (vlo (ev ρ ye)) (vhi (ev ρ ye)) (vof (ev ρ ye)) := hG
      rw [e] at hG
      exact hG
    · have z : yk = 7 := z
      subst z
      have hG : ZV g ya (vlo (ev ρ ye)) (vhi (ev ρ ye)) := hG
      rw [e] at hG
      exact hG
  · cases hd : gdec env fx xe with
    | none => rw [hd] at h; cases h
    | some q =>
      rw [hd] at h
      dsimp only at h
      obtain ⟨d1, d2, d3⟩ := gdec_ok hC.1 hC.2.1 hd
      rcases hx with z | z
      · have z : xk = 5 := z
        subst z
        show SHV g xa xb (vlo (ev ρ xe)) (vhi (ev ρ xe)) (vof (ev ρ xe))
        rw [d1, d2, d3]
        rcases xcnt h with h | h
        · have w := elef_ok hC.1 hC.2.1 2 _ h
          rw [eadd_ev] at w
          intro j p a1 a2
          omega
        · have h : cond (gcov env fx (gpcs env fx xa xb q.2.2 gh) q.2.1 3 q.1) true (cond (gzr env fx gh xa q.1 q.2.1) (gzr env fx gh xb (eadd q.1 q.2.2 1) (eadd q.2.1 q.2.2 1)) false) = true := h
          rcases xcnt h with h | h
          · intro j p a1 a2 a3
            exact gcov_ok hC.1 hC.2.1 (X := fun j => ∀ p : Nat, (p : Int) = ev ρ q.2.2 + (j : Int) → g xa j = g xb p) (fun r hr j b1 b2 p b3 => gpcs_ok hC.1 hC.2.1 gh hC.2.2.2 r hr j p b1 b2 b3) 3 q.1 h j a1 a2 p a3
          · obtain ⟨z1, z2⟩ := xcnb h
            have z1 := gzr_ok hC z1
            have z2 := gzr_ok hC z2
            rw [eadd_ev, eadd_ev] at z2
            intro j p a1 a2 a3
            rw [z1 j a1 a2, z2 p (by omega) (by omega)]
      · have z : xk = 7 := z
        subst z
        show ZV g xa (vlo (ev ρ xe)) (vhi (ev ρ xe))
        rw [d1, d2]
        rcases xcnt h with h | h
        · have w := elef_ok hC.1 hC.2.1 2 _ h
          rw [eadd_ev] at w
          intro j a1 a2
          omega
        · exact gzr_ok hC h
/-- an array of numbers: its tag -/
def gai (T : aty) : Nat := cond (Nat.blt T.1 13) 9 (match agt T.2.2.2.2 0 with
  | none => 9
  | some u => u.1)
theorem gai_ok (hW : aWd h0 tyt typs) {k t n : Nat} {T : aty} (ht : xg tyt k = some t) (hT : xg typs t = some T) (h : gai T = n) (hn : n ≠ 9) {j : Nat} (hj : (j : Int) ≤ (T.2.1 : Int) + -1) : ∃ (q : xcell) (w : xv), xg h0 k = some q ∧ xg q.2.2 j = some w ∧ w.1 = n := by
  obtain ⟨q, T', w1, w2, w3, w4, w5, w6, w7, w8⟩ := hW k t ht
  have e : T' = T := Option.some.inj (w2.symm.trans hT)
  subst e
  obtain ⟨w, u, u1, u2, u3, u4⟩ := w8 j (by omega)
  refine ⟨q, w, w1, u1, ?_⟩
  unfold gai at h
  cases hb : Nat.blt T'.1 13 with
  | true => rw [hb] at h; exact absurd h.symm hn
  | false =>
    rw [hb] at h
    simp only [cond_false] at h
    unfold apl at u2
    rw [hb] at u2
    simp only [cond_false] at u2
    rw [u2] at h
    rw [u3]
    exact h
/-- other places that hold the same -/
noncomputable def ghk5 (tyt : Lean.RArray (Nat × Nat)) (typs : Lean.RArray (Nat × aty)) (env : aenv) (fx : List ae) (t : Nat) (c i : ae) : List gho → List apn
  | [] => []
  | x :: l => cond (cond (Nat.beq x.1 5) (match c.2 with
      | [] => zeq c.1 (x.2.2.1 : Int)
      | _ => false) false)
    (match xg tyt x.2.1 with
      | none => ghk5 tyt typs env fx t c i l
      | some ta => match xg typs ta with
        | none => ghk5 tyt typs env fx t c i l
        | some Ta => match xg typs t with
          | none => ghk5 tyt typs env fx t c i l
          | some Tb => match gdec env fx x.2.2.2 with
            | none => ghk5 tyt typs env fx t c i l
            | some q => efrc (enor env (eadd i q.2.2 (-1))) (fun P => cond (cond (cond (Nat.beq (gai Ta) (gai Tb)) (cond (Nat.beq (gai Tb) 0) true (Nat.beq (gai Tb) 2)) false) (cond (cond (elef env fx 2 (eadd q.1 P (-1))) (elef env fx 2 (eadc (eadd P q.2.1 (-1)) 1)) false) (cond (efit env fx P 0 (Int.add (Ta.2.1 : Int) (-1))) (efit env fx i 0 (Int.add (Tb.2.1 : Int) (-1))) false) false) false) ((ta, ((x.2.1 : Int), []), P) :: ghk5 tyt typs env fx t c i l) (ghk5 tyt typs env fx t c i l))) (ghk5 tyt typs env fx t c i l)
theorem ghk5_ok (hW : aWd h0 tyt typs) {env : aenv} {fx : List ae} {g : cg} {ρ : Nat → Int} (hE : envR env ρ) (hX : fxR fx ρ) {t : Nat} {c i : ae} {k j : Nat} (hc : ev ρ c = (k : Int)) (hi : ev ρ i = (j : Int)) (ht : xg tyt k = some t) : ∀ (gh : List gho), ghR (aGSd sv el (gGH fam AT π)) gh ρ g → ∀ a ∈ ghk5 tyt typs env fx t c i gh, ∃ k2 j2 : Nat, ev ρ a.2.1 = (k2 : Int) ∧ ev ρ a.2.2 = (j2 : Int) ∧ xg tyt k2 = some a.1 ∧ ∀ v : cv, cat h0 g k j v → cat h0 g k2 j2 v
  | [], _, a, ha => absurd ha List.not_mem_nil
  | x :: l, hR, a, ha => by
    have hl : ghR (aGSd sv el (gGH fam AT π)) l ρ g := fun z hz => hR z (List.mem_cons_of_mem _ hz)
    have hG := hR x List.mem_cons_self
    have ih := ghk5_ok hW hE hX hc hi ht l hl
    obtain ⟨xk, xa, xb, xe⟩ := x
    unfold ghk5 at ha
    dsimp only at ha
    cases h1 : cond (Nat.beq xk 5) (match c.2 with
      | [] => zeq c.1 (xb : Int)
      | _ => false) false with
    | false => rw [h1] at ha; exact ih a ha
    | true =>
      rw [h1] at ha
      simp only [cond_true] at ha
      obtain ⟨x1, h1⟩ := xcnb h1
      have e1 : xk = 5 := xeqb x1
      subst e1
      have hG : SHV g xa xb (vlo (ev ρ xe)) (vhi (ev ρ xe)) (vof (ev ρ xe)) := hG
      have ekb : xb = k := by
        split at h1
        · rename_i hn
          have e := zeq_iff.mp h1
          have e2 : ev ρ c = c.1 := by unfold ev; rw [hn]; show _ + 0 = _; omega
          omega
        · cases h1
      cases ha1 : xg tyt xa with
      | none => rw [ha1] at ha; exact ih a ha
      | some ta =>
        rw [ha1] at ha
        dsimp only at ha
        cases hTa : xg typs ta with
        | none => rw [hTa] at ha; exact ih a ha
        | some Ta =>
          rw [hTa] at ha
          dsimp only at ha
          cases hTb : xg typs t with
          | none => rw [hTb] at ha; exact ih a ha
          | some Tb =>
            rw [hTb] at ha
            dsimp only at ha
            cases hd : gdec env fx xe with
            | none => rw [hd] at ha; exact ih a ha
            | some q =>
              rw [hd] at ha
              dsimp only at ha
              rw [efrc_eq] at ha
              have eP := enor_ok hE (eadd i q.2.2 (-1))
              rw [eadd_ev, hi] at eP
              generalize enor env (eadd i q.2.2 (-1)) = P at ha eP
              cases h2 : cond (cond (Nat.beq (gai Ta) (gai Tb)) (cond (Nat.beq (gai Tb) 0) true (Nat.beq (gai Tb) 2)) false) (cond (cond (elef env fx 2 (eadd q.1 P (-1))) (elef env fx 2 (eadc (eadd P q.2.1 (-1)) 1)) false) (cond (efit env fx P 0 (Int.add (Ta.2.1 : Int) (-1))) (efit env fx i 0 (Int.add (Tb.2.1 : Int) (-1))) false) false) false with
              | false => rw [h2] at ha; exact ih a ha
              | true =>
                rw [h2] at ha
                simp only [cond_true] at ha
                rcases List.mem_cons.mp ha with e | ha
                · obtain ⟨g0, h2⟩ := xcnb h2
                  obtain ⟨g1, g2⟩ := xcnb g0
                  obtain ⟨h3, h4⟩ := xcnb h2
                  obtain ⟨a1, a2⟩ := xcnb h3
                  obtain ⟨a3, a4⟩ := xcnb h4
                  have a1 := elef_ok hE hX 2 _ a1
                  have a2 := elef_ok hE hX 2 _ a2
                  have a3 := efit_ok hE hX a3
                  have a4 := efit_ok hE hX a4
                  rw [eadd_ev] at a1
                  rw [eadc_ev, eadd_ev] at a2
                  obtain ⟨d1, d2, d3⟩ := gdec_ok hE hX hd
                  rw [d1, d2, d3] at hG
                  have b3 : ev ρ P ≤ (Ta.2.1 : Int) + -1 := a3.2
                  have b4 : ev ρ i ≤ (Tb.2.1 : Int) + -1 := a4.2
                  obtain ⟨j2, hj2⟩ : ∃ j2 : Nat, ev ρ P = (j2 : Int) := ⟨(ev ρ P).toNat, by have := a3.1; omega⟩
                  rw [e]
                  refine ⟨xa, j2, evc ρ _, hj2, ha1, fun v hv => ?_⟩
                  have g3 : gai Tb = 0 ∨ gai Tb = 2 := by
                    rcases xcnt g2 with q | q
                    · exact Or.inl (xeqb q)
                    · exact Or.inr (xeqb q)
                  have g4 : gai Tb ≠ 9 := by rcases g3 with q | q <;> rw [q] <;> decide
                  obtain ⟨qa, wa, p1, p2, p3⟩ := gai_ok hW ha1 hTa (xeqb g1) g4 (j := j2) (by omega)
                  obtain ⟨qb, wb, r1, r2, r3⟩ := gai_ok hW ht hTb rfl g4 (j := j) (by omega)
                  obtain ⟨qc, wc, s1, s2, s3⟩ := hv
                  have e5 : qc = qb := Option.some.inj (s1.symm.trans r1)
                  subst e5
                  have e6 : wc = wb := Option.some.inj (s2.symm.trans r2)
                  subst e6
                  refine ⟨qa, wa, p1, p2, ?_⟩
                  have e7 : g xa j2 = g k j := by rw [← ekb]; exact hG j2 j (by omega) (by omega) (by omega)
                  rw [s3]
                  unfold cval
                  rw [r3, p3, e7]
                  rcases g3 with q | q <;> rw [q] <;> rfl
                · exact ih a ha
noncomputable def zHK (fam : Lean.RArray (Nat × afam)) (tyt : Lean.RArray (Nat × Nat)) (typs : Lean.RArray (Nat × aty)) (env : aenv) (fx : List ae) (mem : List am) (gh : List gho) (t : Nat) (c i : ae) (b : Int × Int) : (Int × Int) × List apn × ae := (gHK0 fam env fx mem gh t c i b, ghk5 tyt typs env fx t c i gh, (0, []))
theorem zHK_ok (hW : aWd h0 tyt typs) : aHK h0 tyt (aGSd sv el (gGH fam AT π)) (zHK fam tyt typs) := by
  intro env fx mem gh g ρ t c i b k j hC hc hi ht hb1 hb2
  obtain ⟨h1, h2⟩ := gHK0_ok env fx mem gh g ρ t c i b k j hC hc hi ht hb1 hb2
  have e : ev ρ ((0, []) : ae) = 0 := ecst_ev ρ 0
  refine ⟨⟨?_, ?_⟩, ghk5_ok hW hC.1 hC.2.1 hc hi ht gh hC.2.2.2⟩
  · show (gHK0 fam env fx mem gh t c i b).1 ≤ g k j - ev ρ ((0, []) : ae)
    omega
  · show g k j - ev ρ ((0, []) : ae) ≤ (gHK0 fam env fx mem gh t c i b).2
    omega
noncomputable def zHS (fam : Lean.RArray (Nat × afam)) (tyt : Lean.RArray (Nat × Nat)) (fids : List Nat) (tAT AT : Nat) (env : aenv) (fx : List ae) (mem : List am) (gh : List gho) (t : Nat) (c i : ae) (v : av) : List gho :=
  gHS fam fids tAT AT env fx mem gh t c i v ++ gh.flatMap (ghs5 tyt env fx mem t c i v)
theorem zHS_ok (hT : gfT tyt fam) (hN : gfN fam) (hAT : ∀ k, xg tyt k = some tAT → k = AT) (hAT2 : xg tyt AT = some tAT) {fids : List Nat} : aHS h0 tyt (aGSd sv el (gGH fam AT π)) (zHS fam tyt fids tAT AT) := by
  intro env fx mem gh g ρ t c i v k j hC hc hi ht hcat x hx
  rcases List.mem_append.mp hx with hx | hx
  · exact gHS_ok hT hN hAT hAT2 env fx mem gh g ρ t c i v k j hC hc hi ht hcat x hx
  · obtain ⟨x0, h1, h2⟩ := List.mem_flatMap.mp hx
    exact ghs5_ok hC hc hi ht h1 h2
noncomputable def zHA (fam : Lean.RArray (Nat × afam)) (tyt : Lean.RArray (Nat × Nat)) (AT : Nat) (env : aenv) (fx : List ae) (mem : List am) (gh : List gho) (ta : Nat) (ca : ae) (tb : Nat) (cb sp dp m : ae) : List gho :=
  gHA fam AT env fx mem gh ta ca tb cb sp dp m ++ gh.flatMap (gha5 tyt env fx tb ca cb sp dp m)
theorem zHA_ok : aHA h0 tyt (aGSd sv el (gGH fam AT π)) (zHA fam tyt AT) := by
  intro env fx mem gh g ρ ta ca tb cb sp dp m ka kb s d n hC hca hcb hta htb hsp hdp hm x hx
  rcases List.mem_append.mp hx with hx | hx
  · exact gHA_ok env fx mem gh g ρ ta ca tb cb sp dp m ka kb s d n hC hca hcb hta htb hsp hdp hm x hx
  · obtain ⟨x0, h1, h2⟩ := List.mem_flatMap.mp hx
    exact gha5_ok hC hca hcb htb hsp hdp hm h1 h2
noncomputable def zHW (fam : Lean.RArray (Nat × afam)) (tyt : Lean.RArray (Nat × Nat)) (tAT AT : Nat) (env : aenv) (fx : List ae) (mem : List am) (gh : List gho) (wr : List awr) : List gho := gHW fam tyt tAT AT env fx mem gh wr ++ gh.filter (ghw5 tyt env fx wr)
theorem zHW_ok (hT : gfT tyt fam) (hAT2 : xg tyt AT = some tAT) : aHW h0 tyt (aGSd sv el (gGH fam AT π)) (zHW fam tyt tAT AT) := by
  intro env fx mem gh wr g g' ρ hC hg x hx
  rcases List.mem_append.mp hx with hx | hx
  · exact gHW_ok hT hAT2 env fx mem gh wr g g' ρ hC hg x hx
  · obtain ⟨h1, h2⟩ := List.mem_filter.mp hx
    exact ghw5_ok hC hg h1 h2
noncomputable def zHH (fam : Lean.RArray (Nat × afam)) (AT : Nat) (srcs : List Nat) (env : aenv) (fx : List ae) (mem : List am) (gh : List gho) (x : gho) : Bool :=
  cond (cond (Nat.beq x.1 5) true (Nat.beq x.1 7)) (ghh5 env fx gh x) (gHH fam AT srcs env fx mem gh x)
theorem zHH_ok {srcs : List Nat} : aHH h0 tyt (aGSd sv el (gGH fam AT π)) (zHH fam AT srcs) := by
  intro env fx mem gh x g ρ h hC
  unfold zHH at h
  cases h1 : cond (Nat.beq x.1 5) true (Nat.beq x.1 7) with
  | false => rw [h1] at h; exact gHH_ok env fx mem gh x g ρ h hC
  | true =>
    rw [h1] at h
    refine ghh5_ok hC ?_ h
    rcases xcnt h1 with q | q
    · exact Or.inl (xeqb q)
    · exact Or.inr (xeqb q)
end Gho7
