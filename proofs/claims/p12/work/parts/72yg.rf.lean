/-! the FAULT and its place behind court and trials, on both sides -/
def RF2 (c d : cg) : Prop := c 88 10 = d 253 16 ∧ c 88 11 = d 253 17
theorem RF2.st {c d : cg} (h : RF2 c d) (z z' : Int) : RF2 (cup c 0 0 z) (cup d 253 2 z') := by
  refine ⟨?_, ?_⟩
  · rw [cup_ne (by decide), cup_ne (by decide)]; exact h.1
  · rw [cup_ne (by decide), cup_ne (by decide)]; exact h.2
section Rf
variable {sv : Nat → Int32} {L : Nat}
theorem court_rf {n n' : Nat} {lf lf' : dlf} {c d c' d' : cg} {a r r' : Int} (hP : PRE c d) (h : zr sv L n 273 0 lf [] c (c', some (0, r))) (h0 : lf 0 = (4, 0)) (h1 : lf 1 = (0, a)) (h' : zr sv L n' 274 0 lf' [] d (d', some (0, r'))) (h0' : lf' 0 = (4, 253)) (h1' : lf' 1 = (0, a)) (hRF : RF2 c d) : RF2 c' d' := by
  obtain ⟨k, hk9, hk, hk', hcb, hdb, htp, hks⟩ := hP
  obtain ⟨g1, r2, k1, h⟩ := t_court h h0 h1
  obtain ⟨d1, r2', k2, h'⟩ := m_court0 h' h0' h1'
  have refuse : r2 = 0 ∧ g1 = c → r2' = 0 ∧ d1 = d → RF2 c' d' := by
    intro ⟨z1, zc⟩ ⟨z2, zd⟩
    rcases h with ⟨y1, -⟩ | ⟨y1, g12, r13, k3, h⟩
    · exact absurd z1 y1
    · rcases h' with ⟨y2, -⟩ | ⟨y2, g6, r7, k4, h'⟩
      · exact absurd z2 y2
      · rw [(oI h).1, (oI h').1, (oI (t_refuse k3 rfl rfl)).1, (oI (m_refuse k4 rfl rfl)).1, zc, zd]
        exact hRF.st _ _
  rcases t_within k1 rfl rfl rfl with ⟨x1, x2⟩ | ⟨x1, ⟨x2, x3⟩ | ⟨x2, x3⟩⟩
  · rcases m_begins0 k2 rfl rfl rfl with ⟨y1, y2⟩ | ⟨y1, y2⟩
    · exact refuse ⟨(oI x2).2, (oI x2).1⟩ ⟨(oI y2).2, (oI y2).1⟩
    · omega
  · rcases m_begins0 k2 rfl rfl rfl with ⟨y1, y2⟩ | ⟨y1, ⟨y2, y3⟩ | ⟨y2, y3⟩⟩
    · omega
    · exact refuse ⟨(oI x3).2, (oI x3).1⟩ ⟨(oI y3).2, (oI y3).1⟩
    · omega
  · rcases m_begins0 k2 rfl rfl rfl with ⟨y1, y2⟩ | ⟨y1, ⟨y2, y3⟩ | ⟨y2, ⟨y3, lx, z0, z1, z3, k3⟩ | ⟨y3, y4⟩⟩⟩
    · omega
    · omega
    · obtain ⟨ma, hma⟩ : ∃ ma : Nat, a = (ma : Int) := ⟨a.toNat, by omega⟩
      rw [hma] at z1 k3
      obtain ⟨e1, e2⟩ := oI x3
      rcases h with ⟨u1, g4, r5, k4, h⟩ | ⟨u1, h⟩
      · -- the text
        obtain ⟨N, d2, lf2, w0, k5, w1, w2, w3⟩ := tx_l (m := ma) (by omega) n' (j := 0) z0 z1 z3 (Nat.zero_le _) (fun i hi => by
          rw [cup_row d _ _ (by decide), htp i (by omega)]; exact hcb i (by omega)) (fun i hi => absurd hi (Nat.not_lt_zero i)) k3
        obtain ⟨d4, k6, he⟩ := m_begins49 k5 w0
        obtain ⟨e3, e4⟩ := oI he
        -- the class's draft
        obtain ⟨c1, k7, c2, k8, ly, v0, v2, k9⟩ := t_takeCt0 k4 rfl rfl
        obtain ⟨c0, k10, he1⟩ := t_clear k7 rfl
        have e5 := oV (t_tclear k10 rfl)
        have e6 := oV he1
        obtain ⟨g5, r6, k11, g7, k12, he2⟩ := t_tbegin k8 rfl rfl
        have e7 := oV he2
        have hmin : g5 = cup c1 90 4 0 ∧ r6 = (ma : Int) := by
          rcases t_min k11 rfl rfl with ⟨q1, q2⟩ | ⟨q1, q2⟩
          · omega
          · obtain ⟨q3, q4⟩ := oI q2
            exact ⟨q3, by omega⟩
        obtain ⟨e8, e9⟩ := hmin
        have C45 : ∀ j : Nat, c1 45 j = cup (cup (cup (cup (cup (cup (cup (cup g1 0 5 0) 45 0 0) 45 3 0) 45 5 5) 45 6 2) 45 7 10) 45 8 0) 45 9 0 45 j := fun j => by
          rw [e6, e5, cup_ne (by omega), cup_ne (by omega), cup_ne (by omega)]
        have Crow : ∀ k : Nat, k ≠ 0 → k ≠ 45 → k ≠ 50 → c1 k = c k := fun k q1 q2 q3 => by
          rw [e6, e5, cup_row _ _ _ q3, cup_row _ _ _ q3, cup_row _ _ _ q3, cup_row _ _ _ q2, cup_row _ _ _ q2, cup_row _ _ _ q2, cup_row _ _ _ q2, cup_row _ _ _ q2, cup_row _ _ _ q2, cup_row _ _ _ q2, cup_row _ _ _ q1, e1]
        rw [e8, e9] at k12
        have c3row : ∀ k : Nat, k ≠ 88 → cup (cup (cup (cup (cup c1 90 4 0) 88 2 (ma : Int)) 88 3 0) 88 10 0) 88 11 (-1) k = cup c1 90 4 0 k := fun k q => by
          rw [cup_row _ _ _ q, cup_row _ _ _ q, cup_row _ _ _ q, cup_row _ _ _ q]
        have d3row : ∀ k : Nat, k ≠ 253 → cup (cup (cup (cup (cup d2 253 10 0) 253 18 0) 253 17 (-1)) 253 14 0) 253 19 0 k = d2 k := fun k q => by
          rw [cup_row _ _ _ q, cup_row _ _ _ q, cup_row _ _ _ q, cup_row _ _ _ q, cup_row _ _ _ q]
        have hE3 : TE (cup (cup (cup (cup (cup c1 90 4 0) 88 2 (ma : Int)) 88 3 0) 88 10 0) 88 11 (-1)) (cup (cup (cup (cup (cup d2 253 10 0) 253 18 0) 253 17 (-1)) 253 14 0) 253 19 0) ma := by
          refine ⟨by omega, ?_, ?_, ?_, ?_, ?_, ?_, by rw [cup_ne (by decide), cup_at], by rw [cup_at], by rw [cup_ne (by decide), cup_ne (by decide), cup_at]⟩
          · rw [cup_ne (by decide), cup_ne (by decide), cup_ne (by decide), cup_at]
          · rw [cup_ne (by decide), cup_ne (by decide), cup_ne (by decide), cup_ne (by decide), cup_ne (by decide), w1 253 (by decide), cup_at]
          · rw [c3row 2 (by decide), cup_row _ _ _ (by decide), Crow 2 (by decide) (by decide) (by decide)]
            exact hcb
          · unfold MBY at hdb ⊢
            rw [d3row 260 (by decide)]
            intro j hj
            by_cases e : j < ma
            · rw [w2 j e, cup_row d _ _ (by decide), htp j (by omega)]; exact hcb j (by omega)
            · rw [w3 j (by omega), cup_row d _ _ (by decide)]; exact hdb j hj
          · intro j hj
            rw [d3row 260 (by decide), c3row 2 (by decide), cup_row _ _ _ (by decide), Crow 2 (by decide) (by decide) (by decide), w2 j hj, cup_row d _ _ (by decide)]
            exact htp j (by omega)
          · intro i hi
            rw [c3row 89 (by decide), cup_row _ _ _ (by decide), Crow 89 (by decide) (by decide) (by decide)]
            exact hks i hi
        obtain ⟨f1, f2, hE4, hT4⟩ := adv_ahd (a := 0) hE3 (Eq.trans (b := (0 : Int)) (by rw [cup_ne (by decide), cup_ne (by decide), cup_at]) rfl) (Eq.trans (b := (0 : Int)) (by rw [cup_ne (by decide), cup_at]) rfl) (Nat.zero_le _) k12 rfl k6 rfl
        rcases h' with ⟨u2, d5, k13, lz, v3, v4, k14⟩ | ⟨u2, h'⟩
        · obtain ⟨p1, p2, p3, p4⟩ := plain_ok k13 rfl rfl
          rw [e3] at p1
          have hE5 := ((hE4.up (c' := g7) (d' := d5) rfl rfl rfl (p1 253 (by decide)) (p1 260 (by decide))).told (g7 90 4) 0)
          have hT5 := ((hT4.up (c' := g7) (d' := d5) rfl (p1 253 (by decide)) (p1 260 (by decide))).told (g7 90 4) 0)
          rw [cup_id rfl] at hE5 hT5
          have d6 : ∀ j : Nat, cup d5 253 20 0 254 j = d5 254 j := fun j => cup_ne (by omega)
          have c7 : ∀ j : Nat, g7 45 j = c1 45 j := fun j => by
            rw [f1.row (k := 45) (by decide), c3row 45 (by decide), cup_row _ _ _ (by decide)]
          have hS : SY g7 (cup d5 253 20 0) ma 0 0 := by
            refine ⟨hE5, hT5, ⟨⟨by decide, by decide⟩, ⟨?_, ?_, ?_, ?_⟩, fun i hi => absurd hi (Nat.not_lt_zero i), fun i hi => absurd hi (Nat.not_lt_zero i), fun i hi => absurd hi (Nat.not_lt_zero i), fun i hi => absurd hi (Nat.not_lt_zero i), fun i _ hi => ⟨?_, fun h hh => ?_⟩, ⟨?_, ?_, ?_, ?_, ?_, ?_, ?_⟩, ?_⟩, ?_⟩
            · exact Eq.trans (b := (0 : Int)) (by rw [c7, C45, cup_ne (by decide), cup_ne (by decide), cup_ne (by decide), cup_ne (by decide), cup_ne (by decide), cup_ne (by decide), cup_at]) rfl
            · exact Eq.trans (b := (0 : Int)) (by rw [d6, p3 2976 (by decide) (by decide) (by decide) (by decide) (by decide) (by decide)]) rfl
            · exact Eq.trans (b := (0 : Int)) (by rw [c7, C45, cup_ne (by decide), cup_ne (by decide), cup_ne (by decide), cup_ne (by decide), cup_ne (by decide), cup_at]) rfl
            · exact Eq.trans (b := (0 : Int)) (by rw [d6, p3 2977 (by decide) (by decide) (by decide) (by decide) (by decide) (by decide)]) rfl
            · rw [d6, p3 _ (by omega) (by omega) (by omega) (by omega) (by omega) (by omega)]
            · rw [d6, show 3027 + 8 * i + h = 3027 + (8 * i + h) by omega, p4 _ (by omega)]
            · rw [c7, C45, d6, p2.1, cup_ne (by decide), cup_ne (by decide), cup_ne (by decide), cup_ne (by decide), cup_at]
            · rw [c7, C45, d6, p2.2.1, cup_ne (by decide), cup_ne (by decide), cup_ne (by decide), cup_at]
            · rw [c7, C45, d6, p2.2.2, cup_ne (by decide), cup_ne (by decide), cup_at]
            · rw [c7, C45, cup_ne (by decide), cup_at]
            · rw [d6, p3 2982 (by decide) (by decide) (by decide) (by decide) (by decide) (by decide)]
            · rw [c7, C45, cup_at]
            · rw [d6, p3 2978 (by decide) (by decide) (by decide) (by decide) (by decide) (by decide)]
            · rw [cup_at, f1.row (k := 90) (by decide), c3row 90 (by decide), cup_at]
              exact ⟨0, 0, 0, by decide, by decide, by decide, rfl, rfl⟩
            · rw [cup_ne (by decide), p1 253 (by decide), f2 253 18 (by omega), cup_ne (by decide), cup_ne (by decide), cup_ne (by decide), cup_at]
          have hb0 : ((0 : Nat) : Int) ≤ g7 88 5 := by
            obtain ⟨p, hp, -⟩ := hT5
            omega
          rw [e7] at k9
          obtain ⟨N2, d7, lw, q0, k15, hfin⟩ := ct_l (m := ma) n (b := 0) hS v0 v2 hb0 k9 v3 v4 k14
          rcases hfin with ⟨q1, np, nq, hS7⟩ | ⟨q1, hF⟩
          · have hD7 := hS7.2.2.1
            rcases h with ⟨q2, g8, k16, g9, r9, k17, h⟩ | ⟨q2, h⟩
            · have C := (call_3_45 k16 rfl rfl).1
              have e10 := (oI (t_give k17 rfl rfl)).1
              have e11 := (oI h).1
              obtain ⟨-, -, -, -, -, -, -, F1, F2, F3⟩ := hS7.1
              rcases m_court50 k15 q0 with ⟨q3, -⟩ | ⟨q3, l1, l2, l3, k18⟩
              · exact absurd hS7.2.2.2 q3
              · obtain ⟨N3, d8, l4, l5, l6, k19, l7, l8⟩ := cm_l (X := (nq : Int)) N2 (b := 0) l2 l3 (by decide) hD7.2.1.2.2.2 (fun e => absurd e (by decide)) k18
                obtain ⟨N4, d9, l9, l10, k20, l11⟩ := cn_l N3 (b := 0) l5 l6 (by decide) k19
                obtain ⟨g10, r10, k21, he3⟩ := m_court117 k20 l10
                have e12 := (oI he3).1
                rw [l11 254 (by decide), l8] at k21
                rcases m_taken k21 rfl rfl with ⟨t1, g11, r11, k22, t2⟩ | ⟨t1, t2⟩
                · rw [e11, e10, e12, (oI t2).1, (oI (m_gives k22 rfl rfl)).1]
                  have w18 : d9 253 18 = 0 := by rw [l11 253 (by decide), l7 253 (by decide)]; exact hS7.2.2.2
                  have w17 : d9 253 17 = -1 := by rw [l11 253 (by decide), l7 253 (by decide)]; exact F3
                  refine ⟨?_, ?_⟩
                  · rw [cup_ne (by decide), C 88 (by decide), F1, cup_ne (by decide), cup_at, w18]
                  · rw [cup_ne (by decide), C 88 (by decide), F2, cup_ne (by decide), cup_ne (by decide), w17]
                · exfalso
                  have := hS7.2.2.2
                  rw [l11 253 (by decide), l7 253 (by decide)] at t1
                  omega
            · omega
          · rcases h with ⟨q2, h⟩ | ⟨q2, g10, r11, k16, h⟩
            · exact absurd q1 q2
            · have e10 := (oI (t_refuse k16 rfl rfl)).1
              have e11 := (oI h).1
              obtain ⟨hF1, hF2, hF3⟩ := hF
              rcases m_court50 k15 q0 with ⟨q3, l1, l2, k18⟩ | ⟨q3, -⟩
              · obtain ⟨g12, r12, k21, he3⟩ := m_court117 k18 l2
                have e12 := (oI he3).1
                rcases m_taken k21 rfl rfl with ⟨t1, t2⟩ | ⟨t1, g13, r13, k22, t2⟩
                · omega
                · rw [e11, e10, e12, (oI t2).1, (oI (m_refuse k22 rfl rfl)).1]
                  refine ⟨?_, ?_⟩
                  · rw [cup_ne (by decide), hF1, cup_ne (by decide), cup_at]
                  · rw [cup_ne (by decide), hF3, cup_ne (by decide), cup_ne (by decide)]
              · omega
        · omega
      · omega
    · omega
end Rf
section Rf2
variable {sv : Nat → Int32} {L : Nat} {n n' : Nat} {lf lf' : dlf} {c d c' d' : cg} {m np nq : Nat} {r r' : Int}
theorem trials_rf {a : Int} (hP : PRE c d) (hW : WN c d np nq) (h : zr sv L n 275 0 lf [] c (c', some (0, r))) (h0 : lf 0 = (4, 0)) (h1 : lf 1 = (0, a)) (h' : zr sv L n' 276 0 lf' [] d (d', some (0, r'))) (h0' : lf' 0 = (4, 253)) (h1' : lf' 1 = (0, a)) (hRF : RF2 c d) : RF2 c' d' := by
  obtain ⟨k, hk9, hk, hk', hcb, hdb, htp, hks⟩ := hP
  obtain ⟨g1, r2, k1, h⟩ := t_trials h h0 h1
  obtain ⟨d1, r2', k2, h'⟩ := m_tr0 h' h0' h1'
  have mref : r2' = 0 ∧ d1 = d → ∃ z : Int, d' = cup d 253 2 z := by
    intro ⟨z2, zd⟩
    rcases h' with ⟨y2, -⟩ | ⟨y2, g6, r7, k4, h'⟩
    · exact absurd z2 y2
    · exact ⟨_, by rw [(oI h').1, (oI (m_refuse k4 rfl rfl)).1, zd]⟩
  have cref : (r2 = 0 ∨ 300 < a) ∧ g1 = c → ∃ z : Int, c' = cup c 0 0 z := by
    intro ⟨z1, zc⟩
    rcases h with ⟨y1, g4, r5, k3, h⟩ | ⟨y1, ⟨y2, -⟩ | ⟨y2, g15, r16, k3, h⟩⟩
    · exact ⟨_, by rw [(oI h).1, (oI (t_refuse k3 rfl rfl)).1, zc]⟩
    · exfalso
      clear h'
      omega
    · exact ⟨_, by rw [(oI h).1, (oI (t_refuse k3 rfl rfl)).1, zc]⟩
  have both : ((r2 = 0 ∨ 300 < a) ∧ g1 = c) → (r2' = 0 ∧ d1 = d) → RF2 c' d' := fun u u' => by
    obtain ⟨z, e⟩ := cref u
    obtain ⟨z', e'⟩ := mref u'
    rw [e, e']
    exact hRF.st _ _
  rcases t_within k1 rfl rfl rfl with ⟨x1, x2⟩ | ⟨x1, ⟨x2, x3⟩ | ⟨x2, x3⟩⟩
  · rcases m_begins0 k2 rfl rfl rfl with ⟨y1, y2⟩ | ⟨y1, y2⟩
    · exact both ⟨Or.inl (oI x2).2, (oI x2).1⟩ ⟨(oI y2).2, (oI y2).1⟩
    · omega
  · rcases m_begins0 k2 rfl rfl rfl with ⟨y1, y2⟩ | ⟨y1, ⟨y2, y3⟩ | ⟨y2, y3⟩⟩
    · omega
    · exact both ⟨Or.inl (oI x3).2, (oI x3).1⟩ ⟨(oI y3).2, (oI y3).1⟩
    · omega
  · rcases m_begins0 k2 rfl rfl rfl with ⟨y1, y2⟩ | ⟨y1, ⟨y2, y3⟩ | ⟨y2, ⟨y3, lx, z0, z1, z3, k3⟩ | ⟨y3, y4⟩⟩⟩
    · omega
    · omega
    · obtain ⟨ma, hma⟩ : ∃ ma : Nat, a = (ma : Int) := ⟨a.toNat, by omega⟩
      rw [hma] at z1 k3
      obtain ⟨e1, e2⟩ := oI x3
      rcases h with ⟨u1, -⟩ | ⟨u1, ⟨-, g7, r8, k4, h⟩ | ⟨u2, -⟩⟩
      · omega
      · obtain ⟨N, d2, lf2, w0, k5, w1, w2, w3⟩ := tx_l (m := ma) (by omega) n' (j := 0) z0 z1 z3 (Nat.zero_le _) (fun i hi => by
          rw [cup_row d _ _ (by decide), htp i (by omega)]; exact hcb i (by omega)) (fun i hi => absurd hi (Nat.not_lt_zero i)) k3
        obtain ⟨d4, k6, he⟩ := m_begins49 k5 w0
        obtain ⟨e3, e4⟩ := oI he
        obtain ⟨c1, k7, c2, k8, ly, v0, v2, k9⟩ := t_takeTr0 k4 rfl rfl
        have e5 := oV (t_tclear k7 rfl)
        obtain ⟨g5, r6, k11, g8, k12, he2⟩ := t_tbegin k8 rfl rfl
        have e7 := oV he2
        have hmin : g5 = cup c1 90 6 0 ∧ r6 = (ma : Int) := by
          rcases t_min k11 rfl rfl with ⟨q1, q2⟩ | ⟨q1, q2⟩
          · omega
          · obtain ⟨q3, q4⟩ := oI q2
            exact ⟨q3, by omega⟩
        obtain ⟨e8, e9⟩ := hmin
        rw [e8, e9] at k12
        have Crow : ∀ k : Nat, k ≠ 0 → k ≠ 50 → k ≠ 90 → k ≠ 88 → cup (cup (cup (cup (cup c1 90 6 0) 88 2 (ma : Int)) 88 3 0) 88 10 0) 88 11 (-1) k = c k := fun k q1 q2 q3 q4 => by
          rw [cup_row _ _ _ q4, cup_row _ _ _ q4, cup_row _ _ _ q4, cup_row _ _ _ q4, cup_row _ _ _ q3, e5, cup_row _ _ _ q2, cup_row _ _ _ q2, cup_row _ _ _ q2, cup_row _ _ _ q1, e1]
        have d3row : ∀ k : Nat, k ≠ 253 → cup (cup (cup (cup (cup d2 253 10 0) 253 18 0) 253 17 (-1)) 253 14 0) 253 19 0 k = d2 k := fun k q => by
          rw [cup_row _ _ _ q, cup_row _ _ _ q, cup_row _ _ _ q, cup_row _ _ _ q, cup_row _ _ _ q]
        have hE3 : TE (cup (cup (cup (cup (cup c1 90 6 0) 88 2 (ma : Int)) 88 3 0) 88 10 0) 88 11 (-1)) (cup (cup (cup (cup (cup d2 253 10 0) 253 18 0) 253 17 (-1)) 253 14 0) 253 19 0) ma := by
          refine ⟨by omega, ?_, ?_, ?_, ?_, ?_, ?_, by rw [cup_ne (by decide), cup_at], by rw [cup_at], by rw [cup_ne (by decide), cup_ne (by decide), cup_at]⟩
          · rw [cup_ne (by decide), cup_ne (by decide), cup_ne (by decide), cup_at]
          · rw [cup_ne (by decide), cup_ne (by decide), cup_ne (by decide), cup_ne (by decide), cup_ne (by decide), w1 253 (by decide), cup_at]
          · rw [Crow 2 (by decide) (by decide) (by decide) (by decide)]
            exact hcb
          · unfold MBY at hdb ⊢
            rw [d3row 260 (by decide)]
            intro j hj
            by_cases e : j < ma
            · rw [w2 j e, cup_row d _ _ (by decide), htp j (by omega)]; exact hcb j (by omega)
            · rw [w3 j (by omega), cup_row d _ _ (by decide)]; exact hdb j hj
          · intro j hj
            rw [d3row 260 (by decide), Crow 2 (by decide) (by decide) (by decide) (by decide), w2 j hj, cup_row d _ _ (by decide)]
            exact htp j (by omega)
          · intro i hi
            rw [Crow 89 (by decide) (by decide) (by decide) (by decide)]
            exact hks i hi
        obtain ⟨f1, f2, hE4, hT4⟩ := adv_ahd (a := 0) hE3 (Eq.trans (b := (0 : Int)) (by rw [cup_ne (by decide), cup_ne (by decide), cup_at]) rfl) (Eq.trans (b := (0 : Int)) (by rw [cup_ne (by decide), cup_at]) rfl) (Nat.zero_le _) k12 rfl k6 rfl
        rcases h' with ⟨u2, lz, v3, v4, k14⟩ | ⟨u2, -⟩
        · have D4 : ∀ k j : Nat, ¬ (k = 254 ∧ j = 2983) → ¬ (k = 253 ∧ j = 22) → ¬ (k = 253 ∧ j = 23) → cup (cup (cup d1 254 2983 0) 253 22 0) 253 23 0 k j = d4 k j := fun k j i1 i2 i3 => by rw [cup_ne i3, cup_ne i2, cup_ne i1, e3]
          have hS : TS g8 (cup (cup (cup d1 254 2983 0) 253 22 0) 253 23 0) ma 0 0 0 np nq := by
            refine ⟨hE4.gen rfl rfl rfl (D4 253 11 (by omega) (by omega) (by omega)) (funext fun j => D4 260 j (by omega) (by omega) (by omega)) (D4 253 17 (by omega) (by omega) (by omega)), hT4.gen rfl (fun j j1 j2 => D4 253 j (by omega) (by omega) (by omega)) (funext fun j => D4 260 j (by omega) (by omega) (by omega)), ?_, ?_, ⟨?_, ?_, ?_, ?_, ?_, ?_⟩, ⟨by omega, by omega, by omega⟩, fun k hk => absurd hk (Nat.not_lt_zero k)⟩
            · rw [D4 253 18 (by omega) (by omega) (by omega), f2 253 18 (by omega), cup_ne (by decide), cup_ne (by decide), cup_ne (by decide), cup_at]
            · obtain ⟨⟨a1, a2⟩, ⟨b1, b2, b3, b4⟩, b5, b6⟩ := hW
              have R : ∀ k : Nat, k = 3 ∨ k = 5 ∨ (17 ≤ k ∧ k < 45) → g8 k = c k := fun k hk => by rw [f1.row (k := k) (by omega), Crow k (by omega) (by omega) (by omega) (by omega)]
              have Q : ∀ k j : Nat, k = 254 → j < 10 → cup (cup (cup d1 254 2983 0) 253 22 0) 253 23 0 k j = d k j := fun k j i1 i2 => by rw [D4 k j (by omega) (by omega) (by omega), f2 k j (by omega), cup_ne (by omega), cup_ne (by omega), cup_ne (by omega), cup_ne (by omega), cup_ne (by omega), w1 k (by omega), cup_ne (by omega)]
              have Q5 : ∀ j : Nat, cup (cup (cup d1 254 2983 0) 253 22 0) 253 23 0 255 j = d 255 j := fun j => by rw [D4 255 j (by omega) (by omega) (by omega), f2 255 j (by omega), cup_ne (by omega), cup_ne (by omega), cup_ne (by omega), cup_ne (by omega), cup_ne (by omega), w1 255 (by omega), cup_ne (by omega)]
              refine ⟨⟨a1, a2⟩, ⟨by rw [R 3 (by omega)]; exact b1, by rw [Q 254 0 rfl (by omega)]; exact b2, by rw [R 3 (by omega)]; exact b3, by rw [Q 254 1 rfl (by omega)]; exact b4⟩, fun i hi => ?_, fun i hi => ?_⟩
              · rw [R 5 (by omega), Q5]; exact b5 i hi
              · rw [R (17 + 2 * i) (by omega), Q5]; exact b6 i hi
            · exact Eq.trans (b := (0 : Int)) (by rw [f1.row (k := 50) (by decide), cup_row _ _ _ (by decide), cup_row _ _ _ (by decide), cup_row _ _ _ (by decide), cup_row _ _ _ (by decide), cup_row _ _ _ (by decide), e5, cup_at]) rfl
            · exact Eq.trans (b := (0 : Int)) (by rw [cup_ne (by decide), cup_ne (by decide), cup_at]) rfl
            · exact Eq.trans (b := (0 : Int)) (by rw [f1.row (k := 90) (by decide), cup_row _ _ _ (by decide), cup_row _ _ _ (by decide), cup_row _ _ _ (by decide), cup_row _ _ _ (by decide), cup_at]) rfl
            · exact Eq.trans (b := (0 : Int)) (by rw [cup_ne (by decide), cup_at]) rfl
            · exact Eq.trans (b := (0 : Int)) (by rw [f1.row (k := 50) (by decide), cup_row _ _ _ (by decide), cup_row _ _ _ (by decide), cup_row _ _ _ (by decide), cup_row _ _ _ (by decide), cup_row _ _ _ (by decide), e5, cup_ne (by decide), cup_at]) rfl
            · exact Eq.trans (b := (0 : Int)) (by rw [cup_at]) rfl
          have hb0 : ((0 : Nat) : Int) ≤ g8 88 5 := by
            obtain ⟨p, hp, -⟩ := hT4
            omega
          rw [e7] at k9
          obtain ⟨N2, d7, lw, q0, k15, hfin⟩ := tr_l n (b := 0) hS v0 v2 hb0 k9 v3 v4 k14
          have bad : r8 = 0 → ∀ {dx : cg} {Nx : Nat} {lx : dlf}, lx 0 = (4, 253) → FLT g7 dx → zr sv L Nx 276 77 lx [] dx (d', some (0, r')) → RF2 c' d' := by
            intro i1 dx Nx lx i2 hF i4
            obtain ⟨hF1, hF2, hF3⟩ := hF
            have i3 : 0 < dx 253 18 := by omega
            rcases h with ⟨j1, -⟩ | ⟨j1, g13, r14, k16, h⟩
            · exact absurd i1 j1
            · have m1 := (oI (t_refuse k16 rfl rfl)).1
              have m2 := (oI h).1
              rcases m_tr77 i4 i2 with ⟨j2, ly2, j3, j4⟩ | ⟨j2, -⟩
              · obtain ⟨dz, sz, k21, hez⟩ := m_tr132 j4 j3
                have m3 := (oI hez).1
                rcases m_taken k21 rfl rfl with ⟨t1, t2⟩ | ⟨t1, g13', r13', k22, t2⟩
                · omega
                · rw [m2, m1, m3, (oI t2).1, (oI (m_refuse k22 rfl rfl)).1]
                  refine ⟨?_, ?_⟩
                  · rw [cup_ne (by decide), hF1, cup_ne (by decide), cup_at]
                  · rw [cup_ne (by decide), hF3, cup_ne (by decide), cup_ne (by decide)]
              · omega
          rcases hfin with ⟨N1, c9, lv, nn, dp, s, q1, k16, hS9⟩ | ⟨q1, hF⟩
          · obtain ⟨hE9, hT9, a3, a4, ⟨b1, b2, b3, b4, b5, b6⟩, ⟨ww1, ww2, ww3⟩, a7⟩ := hS9
            rcases t_takeTr75 k16 q1 with ⟨j1, o⟩ | ⟨j1, g2, r3, k17, o⟩
            · obtain ⟨l1, l2⟩ := oI o
              rcases m_tr57 k15 q0 with ⟨j2, -⟩ | ⟨j2, ⟨j3, lx2, i1, i2⟩ | ⟨j3, -⟩⟩
              · exact absurd a3 j2
              · rcases m_tr77 i2 i1 with ⟨j4, -⟩ | ⟨j4, ly2, i3, i4, i5⟩
                · exact absurd a3 j4
                · obtain ⟨N5, d10, lf5, m0, m1, m2, m3, m4⟩ := tc_l N2 (b := 260) i3 i4 (by omega) i5
                  obtain ⟨dz, sz, k21, hez⟩ := m_tr132 m1 m0
                  have m5 := (oI hez).1
                  obtain ⟨-, -, -, -, -, -, -, F1, F2, F3⟩ := hE9
                  rcases h with ⟨p1, g10, k22, g11, r12, k23, h⟩ | ⟨p1, -⟩
                  · have C : TCp 8 50 g7 g10 := by
                      have e := oV (c_tri_3_45 k22 rfl rfl)
                      rw [e]
                      exact tcp_of (T := 8) (S := 50) (by omega)
                    have p2 := (oI (t_give k23 rfl rfl)).1
                    have p3 := (oI h).1
                    rcases m_taken k21 rfl rfl with ⟨t1, g11', r11', k24, t2⟩ | ⟨t1, t2⟩
                    · rw [p3, p2, m5, (oI t2).1, (oI (m_gives k24 rfl rfl)).1]
                      have w18 : d10 253 18 = 0 := by rw [m2 253 (by decide), cup_ne (by decide)]; exact a3
                      have w17 : d10 253 17 = -1 := by rw [m2 253 (by decide), cup_ne (by decide)]; exact F3
                      refine ⟨?_, ?_⟩
                      · rw [cup_ne (by decide), C.1 88 (by omega), l1, cup_ne (by decide), F1, cup_ne (by decide), cup_at, w18]
                      · rw [cup_ne (by decide), C.1 88 (by omega), l1, cup_ne (by decide), F2, cup_ne (by decide), cup_ne (by decide), w17]
                    · exfalso
                      rw [m2 253 (by decide), cup_ne (by omega)] at t1
                      omega
                  · omega
              · omega
            · obtain ⟨l1, l2⟩ := oI o
              rcases m_tr57 k15 q0 with ⟨j2, -⟩ | ⟨j2, ⟨j3, -⟩ | ⟨j3, g5', r6', k18, lx2, i1, i2⟩⟩
              · exact absurd a3 j2
              · omega
              · obtain ⟨z1, z2, z3⟩ := fail_pr hT9 a3 (by decide) k17 rfl rfl k18 rfl rfl
                exact bad (by omega) i1 (by rw [l1]; exact z3) i2
          · rcases m_tr57 k15 q0 with ⟨j2, lx2, i1, i2⟩ | ⟨j2, -⟩
            · exact bad q1 i1 hF i2
            · exfalso
              have := hF.1
              have := hF.2.1
              omega
        · omega
      · omega
    · exact both ⟨Or.inr y3, (oI x3).1⟩ ⟨(oI y4).2, (oI y4).1⟩
end Rf2
