/-! where a person was; the rates; any part -/
section Stm3
variable {sv : Nat → Int32} {L : Nat} {n n' : Nat} {lf lf' : dlf} {c d c' d' : cg} {m : Nat} {r r' : Int}
theorem was_pr {np nq : Nat} {d1 : cg} {r1 : Int} (hS : SY c d m np nq) (hk : c 88 7 ≠ -1) (h : zr sv L n 43 0 lf [] c (c', some (0, r))) (h0 : lf 0 = (4, 90)) {lf2 : dlf} (h2 : zr sv L n' 178 0 lf2 [] d (d1, some (0, r1))) (h20 : lf2 0 = (4, 253)) (h' : zr sv L n' 171 129 lf' [] d1 (d', some (0, r'))) (h0' : lf' 0 = (4, 253)) (h1' : lf' 1 = (0, r1)) : ST c c' d' r r' m := by
  obtain ⟨hE, hT, hD, hf⟩ := hS
  have bad : r1 = 0 → r = 0 → FLT c' d1 → ST c c' d' r r' m := by
    intro z1 z2 z3
    obtain ⟨e1, e2⟩ := end_0 h' h0' h1' z1
    exact Or.inr ⟨z2, e2, by rw [e1]; exact z3⟩
  obtain ⟨g1, k1, g2, r3, k2, h⟩ := t_takeWas h h0
  obtain ⟨d2, k3, d3, r4, k4, h2⟩ := m_aTruth h2 h20
  obtain ⟨s1, s2, s3, s4⟩ := adv_su (c0 := c) hE hT (Or.inl (tq_kk hT hk)) k1 rfl k3 rfl
  have hq6 := hD.1.2
  have hp5 := hD.1.1
  have hD2 := hD.fr s1.o8 s2.om
  have hf2 : d2 253 18 = 0 := s2.om.2.2.trans hf
  have b53 : ∀ (g : cg) (j : Nat) (v : Int), cup g 254 j v 253 = g 253 := fun g j v => cup_row g _ _ (by decide)
  have b60 : ∀ (g : cg) (j : Nat) (v : Int), cup g 254 j v 260 = g 260 := fun g j v => cup_row g _ _ (by decide)
  obtain ⟨d3', r4', k5, e⟩ := m_newPer k4 rfl rfl
  obtain ⟨e1, e2⟩ := oI e
  rw [hD2.2.1.2.2.2] at k5
  rw [e1] at h2
  rcases oper_pr (k := nq) (to := 3716) hq6 hD2.2.1.2.2.1 hD2.2.2.2.1 (by decide) s3 s4 hf2 k2 rfl rfl k5 rfl rfl rfl rfl with ⟨w1, ⟨i, w2, w3⟩, u1, u2, u3, u4⟩ | ⟨w1, w2, w3⟩
  · rcases h2 with ⟨y1, h2⟩ | ⟨y1, d5, r5, k6, h2⟩
    · omega
    · rcases h with ⟨x1, h⟩ | ⟨x1, g5, r6, k7, h⟩
      · omega
      · have hD3 : DR g2 d3' np nq := (hD2.spare (to := 3716) (by decide) r3).fr u1.o8 u2.om
        have hf3 : d3' 253 18 = 0 := by rw [u2.om.2.2, b53]; exact hf2
        have hr3 : d3' 254 3716 = r3 := by rw [u2.om.1 254 (by decide), cup_at]
        rcases pass_pr (i := 9) (by decide) u3 u4 hf3 k7 rfl rfl k6 rfl rfl rfl with ⟨f1, f2, f3, f4, f5, f6⟩ | ⟨f1, f2, f3⟩
        · rcases h2 with ⟨y2, h2⟩ | ⟨y2, d8, r9', k8, h2⟩
          · omega
          · rcases h with ⟨x2, g8, r9, k9, h⟩ | ⟨x2, h⟩
            · have hD5 : DR g5 d5 np nq := hD3.fr f3.o8 f4.om
              have hf5 : d5 253 18 = 0 := f4.om.2.2.trans hf3
              rw [hD5.2.1.2.1] at k8
              rcases oplc_pr (k := np) (to := 3717) hp5 hD5.2.1.1 hD5.2.2.1 (by decide) f5 f6 hf5 k9 rfl rfl k8 rfl rfl rfl rfl with ⟨v1, ⟨j, v2, v3⟩, p1, p2, p3, p4⟩ | ⟨v1, v2, v3⟩
              · rcases h2 with ⟨y3, h2⟩ | ⟨y3, d11, r12', k10, h2⟩
                · omega
                · rcases h with ⟨x3, h⟩ | ⟨x3, g11, r12, k11, h⟩
                  · omega
                  · have hD8 : DR g8 d8 np nq := (hD5.spare (to := 3717) (by decide) r9).fr p1.o8 p2.om
                    have hf8 : d8 253 18 = 0 := by rw [p2.om.2.2, b53]; exact hf5
                    have hr9 : d8 254 3717 = r9 := by rw [p2.om.1 254 (by decide), cup_at]
                    have hr3' : d8 254 3716 = r3 := by rw [p2.om.1 254 (by decide), cup_ne (by decide), f4.om.1 254 (by decide)]; exact hr3
                    rcases pass_pr (i := 10) (by decide) p3 p4 hf8 k11 rfl rfl k10 rfl rfl rfl with ⟨q1, q2, q3, q4, q5, q6⟩ | ⟨q1, q2, q3⟩
                    · rcases h2 with ⟨y4, h2⟩ | ⟨y4, d14, r15', k12, h2⟩
                      · omega
                      · rcases h with ⟨x4, g14, r15, k13, h⟩ | ⟨x4, h⟩
                        · have hD11 : DR g11 d11 np nq := hD8.fr q3.o8 q4.om
                          have hf11 : d11 253 18 = 0 := q4.om.2.2.trans hf8
                          rcases num_pr (lo := 0) (hi := 7) (to := 3718) (by decide) q5 q6 hf11 k13 rfl rfl rfl k12 rfl rfl rfl rfl with ⟨i1, i2, i3, i4, i5, i6, i7⟩ | ⟨i1, i2, i3⟩
                          · rw [show ((3718 : Int)).toNat = 3718 from rfl] at i5
                            rcases h2 with ⟨y5, h2⟩ | ⟨y5, h2⟩
                            · rcases h with ⟨x5, h⟩ | ⟨x5, h⟩
                              · obtain ⟨g19, r20, k14, h⟩ := h (by omega) (by omega)
                                have hD14 : DR g14 d14 np nq := (hD11.spare (to := 3718) (by decide) r15).fr i4.o8 i5.om
                                have hf14 : d14 253 18 = 0 := by rw [i5.om.2.2, b53]; exact hf11
                                obtain ⟨l1, l2⟩ := oI h2
                                obtain ⟨t, ht⟩ : ∃ t : Nat, r15 = (t : Int) := ⟨r15.toNat, by omega⟩
                                have n1 : d14 254 3716 = (i : Int) := by rw [i5.om.1 254 (by decide), cup_ne (by decide), q4.om.1 254 (by decide), hr3', w3]
                                have n2 : d14 254 3717 = (j : Int) := by rw [i5.om.1 254 (by decide), cup_ne (by decide), q4.om.1 254 (by decide), hr9, v3]
                                have n3 : d14 254 3718 = (t : Int) := by rw [i5.om.1 254 (by decide), cup_at, ht]
                                rw [n1, n2, n3, show (w32 (w32 (3027 + w32 (8 * (i : Int))) + (t : Int))).toNat = 3027 + 8 * i + t from n8t (by omega) (by omega)] at l1
                                rw [w3, v3, ht, show (60 + 2 * (i : Int)).toNat = 60 + 2 * i by omega, show ((t : Int)).toNat = t from rfl] at k14
                                have hDn := hD14.was (i := i) (h := t) w2 (by omega) (j : Int) (by omega)
                                rw [← l1] at hDn
                                have z1 : cup g14 (60 + 2 * i) t (j : Int) 88 = g14 88 := cup_row _ _ _ (by omega)
                                have z2 : cup g14 (60 + 2 * i) t (j : Int) 2 = g14 2 := cup_row _ _ _ (by omega)
                                have z3 : cup g14 (60 + 2 * i) t (j : Int) 89 = g14 89 := cup_row _ _ _ (by omega)
                                have z6 : d1 253 = d14 253 := by rw [l1, b53]
                                have z7 : d1 260 = d14 260 := by rw [l1, b60]
                                obtain ⟨l3, l4⟩ := oI h
                                rcases end_pr (np := np) (nq := nq) (i6.up z1 z2 z3 z6 z7) (i7.up z1 z6 z7) (by rw [z6]; exact hf14) k14 rfl h' h0' h1' (by omega) with ⟨t1, t2, t3, t4, t5, t6⟩ | ⟨t1, t2, t3⟩
                                · refine Or.inl ⟨by omega, t2, ⟨np, nq, ?_⟩, ?_⟩
                                  · rw [l3]
                                    exact ⟨t5, t6, hDn.fr t3.o8 t4.om, by rw [t4.om.2.2, z6]; exact hf14⟩
                                  · rw [l3]
                                    have j1 := (adv_lt hE hT (Or.inl (tq_kk hT hk)) k1 rfl).2
                                    have j2 := u1.2
                                    have j3 := f3.2
                                    have j4 := p1.2
                                    have j5 := q3.2
                                    have j6 := i4.2
                                    have j7 := t3.2
                                    rw [z1] at j7
                                    omega
                                · exact Or.inr ⟨by omega, t2, by rw [l3]; exact t3⟩
                              · omega
                            · omega
                          · rcases h2 with ⟨y5, h2⟩ | ⟨y5, h2⟩
                            · omega
                            · rcases h with ⟨x5, h⟩ | ⟨x5, h⟩
                              · omega
                              · obtain ⟨l1, l2⟩ := oI h
                                obtain ⟨l3, l4⟩ := oI h2
                                exact bad l4 l2 (by rw [l1, l3]; exact i3)
                        · omega
                    · rcases h2 with ⟨y4, h2⟩ | ⟨y4, h2⟩
                      · rcases h with ⟨x4, h⟩ | ⟨x4, h⟩
                        · omega
                        · obtain ⟨l1, l2⟩ := oI h
                          obtain ⟨l3, l4⟩ := oI h2
                          exact bad l4 l2 (by rw [l1, l3]; exact q3)
                      · omega
              · rcases h2 with ⟨y3, h2⟩ | ⟨y3, h2⟩
                · rcases h with ⟨x3, h⟩ | ⟨x3, h⟩
                  · obtain ⟨l1, l2⟩ := oI h
                    obtain ⟨l3, l4⟩ := oI h2
                    exact bad l4 l2 (by rw [l1, l3]; exact v3)
                  · omega
                · omega
            · omega
        · rcases h2 with ⟨y2, h2⟩ | ⟨y2, h2⟩
          · rcases h with ⟨x2, h⟩ | ⟨x2, h⟩
            · omega
            · obtain ⟨l1, l2⟩ := oI h
              obtain ⟨l3, l4⟩ := oI h2
              exact bad l4 l2 (by rw [l1, l3]; exact f3)
          · omega
  · rcases h2 with ⟨y1, h2⟩ | ⟨y1, h2⟩
    · rcases h with ⟨x1, h⟩ | ⟨x1, h⟩
      · obtain ⟨l1, l2⟩ := oI h
        obtain ⟨l3, l4⟩ := oI h2
        exact bad l4 l2 (by rw [l1, l3]; exact w3)
      · omega
    · omega
theorem rate_pr {np nq k : Nat} {d1 : cg} {r1 B : Int} (hk3 : k < 3) (hB : (k = 2 ∧ B = 60) ∨ (k ≠ 2 ∧ B = 99)) (hS : SY c d m np nq) (hk : c 88 7 ≠ -1) (h : zr sv L n 40 0 lf [] c (c', some (0, r))) (h0 : lf 0 = (4, 90)) (h1 : lf 1 = (0, ((11 + k : Nat) : Int))) (hb : lf 2 = (0, B)) {lf2 : dlf} (h2 : zr sv L n' 174 0 lf2 [] d (d1, some (0, r1))) (h20 : lf2 0 = (4, 253)) (h21 : lf2 1 = (0, ((5 + k : Nat) : Int))) (h' : zr sv L n' 171 129 lf' [] d1 (d', some (0, r'))) (h0' : lf' 0 = (4, 253)) (h1' : lf' 1 = (0, r1)) : ST c c' d' r r' m := by
  obtain ⟨hE, hT, hD, hf⟩ := hS
  have bad : r1 = 0 → r = 0 → FLT c' d1 → ST c c' d' r r' m := by
    intro z1 z2 z3
    obtain ⟨e1, e2⟩ := end_0 h' h0' h1' z1
    exact Or.inr ⟨z2, e2, by rw [e1]; exact z3⟩
  obtain ⟨hq, hTR⟩ := hD.2.2.2.2.2.2.2.2.1.st hk3
  have b53 : ∀ (g : cg) (j : Nat) (v : Int), cup g 254 j v 253 = g 253 := fun g j v => cup_row g _ _ (by decide)
  rcases t_takeRate h h0 h1 hb with ⟨x1, g2, k1, g3, r4, k2, h⟩ | ⟨x1, g14, r15, k1, h⟩
  · rcases m_once h2 h20 h21 with ⟨y1, d2, k3, h2⟩ | ⟨y1, y2⟩
    · have q88 : ∀ v, cup c 90 4 v 88 = c 88 := fun v => cup_row c _ _ (by decide)
      have hE0 := hE.told ((i32 (c 90 4) ||| i32 ((i32 1 <<< (i32 ((11 + k : Nat) : Int) &&& 31)).toInt)).toInt) ((i32 (d 253 20) ||| i32 ((i32 1 <<< (i32 ((5 + k : Nat) : Int) &&& 31)).toInt)).toInt)
      have hT0 := hT.told ((i32 (c 90 4) ||| i32 ((i32 1 <<< (i32 ((11 + k : Nat) : Int) &&& 31)).toInt)).toInt) ((i32 (d 253 20) ||| i32 ((i32 1 <<< (i32 ((5 + k : Nat) : Int) &&& 31)).toInt)).toInt)
      have hD0 := hD.told hTR
      have hk0 : cup c 90 4 ((i32 (c 90 4) ||| i32 ((i32 1 <<< (i32 ((11 + k : Nat) : Int) &&& 31)).toInt)).toInt) 88 4 = 1 := by rw [q88]; exact tq_kk hT hk
      obtain ⟨s1, s2, s3, s4⟩ := adv_su (c0 := c) hE0 hT0 (Or.inl hk0) k1 rfl k3 rfl
      have j1 := (adv_lt hE0 hT0 (Or.inl hk0) k1 rfl).2
      rw [q88] at j1
      have hD2 := hD0.fr s1.o8 s2.om
      have hf2 : d2 253 18 = 0 := by rw [s2.om.2.2, cup_ne (by decide)]; exact hf
      have hto : w32 (w32 (2979 + ((5 + k : Nat) : Int)) - 5) = ((2979 + k : Nat) : Int) := by
        rw [w32_id (z := 2979 + ((5 + k : Nat) : Int)) (by omega) (by omega), w32_id (by omega) (by omega)]
        omega
      rw [hto] at h2
      have hn : ∃ (d4 : cg) (r5 : Int), zr sv L n' 175 0 (darg 0 [(4, 253), (0, ((2979 + k : Nat) : Int)), (0, 0), (0, B)]) [] d2 (d4, some (0, r5)) ∧ d1 = d4 ∧ r1 = r5 := by
        rcases h2 with ⟨z1, d4, r5, k4, h2⟩ | ⟨z1, d4, r5, k4, h2⟩
        · have hB' : B = 99 := by omega
          rw [hB']
          exact ⟨d4, r5, k4, oI h2⟩
        · have hB' : B = 60 := by omega
          rw [hB']
          exact ⟨d4, r5, k4, oI h2⟩
      obtain ⟨d4, r5, k4, e1, e2⟩ := hn
      rcases num_pr (lo := 0) (hi := B) (to := ((2979 + k : Nat) : Int)) (by decide) s3 s4 hf2 k2 rfl rfl rfl k4 rfl rfl rfl rfl with ⟨i1, i2, i3, i4, i5, i6, i7⟩ | ⟨i1, i2, i3⟩
      · rw [show (((2979 + k : Nat) : Int)).toNat = 2979 + k from rfl] at i5
        have hf4 : d4 253 18 = 0 := by rw [i5.om.2.2, b53]; exact hf2
        have hs : ∃ (g8 : cg) (r9 : Int), zr sv L n 42 0 (darg 0 [(4, 88)]) [] (cup g3 45 (5 + k) r4) (g8, some (0, r9)) ∧ c' = g8 ∧ r = r9 := by
          rcases h with ⟨z1, ⟨z2, ⟨z3, g8, r9, k5, h⟩ | ⟨z3, g8, r9, k5, h⟩⟩ | ⟨z2, g8, r9, k5, h⟩⟩ | ⟨z1, h⟩
          · have hk2 : k = 2 := by omega
            rw [hk2]
            exact ⟨g8, r9, k5, oI h⟩
          · have hk2 : k = 1 := by omega
            rw [hk2]
            exact ⟨g8, r9, k5, oI h⟩
          · have hk2 : k = 0 := by omega
            rw [hk2]
            exact ⟨g8, r9, k5, oI h⟩
          · omega
        obtain ⟨g8, r9, k5, e3, e4⟩ := hs
        have q1 : cup g3 45 (5 + k) r4 88 = g3 88 := cup_row _ _ _ (by decide)
        have q2 : cup g3 45 (5 + k) r4 2 = g3 2 := cup_row _ _ _ (by decide)
        have q3 : cup g3 45 (5 + k) r4 89 = g3 89 := cup_row _ _ _ (by decide)
        have hDn := hD2.rate (f := 5 + k) ⟨by omega, by omega⟩ r4
        rw [show 2974 + (5 + k) = 2979 + k by omega] at hDn
        have hDm := hDn.fr (i4.o8.cup 45 (5 + k) r4) i5.om
        rw [e1] at h'
        rcases end_pr (np := np) (nq := nq) (i6.up q1 q2 q3 rfl rfl) (i7.up q1 rfl rfl) hf4 k5 rfl h' h0' h1' (by omega) with ⟨t1, t2, t3, t4, t5, t6⟩ | ⟨t1, t2, t3⟩
        · refine Or.inl ⟨by omega, t2, ⟨np, nq, ?_⟩, ?_⟩
          · rw [e3]
            exact ⟨t5, t6, hDm.fr t3.o8 t4.om, t4.om.2.2.trans hf4⟩
          · rw [e3]
            have j2 := i4.2
            have j3 := t3.2
            rw [q1] at j3
            omega
        · exact Or.inr ⟨by omega, t2, by rw [e3]; exact t3⟩
      · rcases h with ⟨z1, h⟩ | ⟨z1, h⟩
        · exact absurd i1 z1
        · obtain ⟨l1, l2⟩ := oI h
          exact bad (by omega) l2 (by rw [l1, e1]; exact i3)
    · rcases hq with ⟨z1, z2⟩ | ⟨z1, z2⟩
      · exact absurd y1 z2
      · exact absurd x1 z1
  · rcases m_once h2 h20 h21 with ⟨y1, y2⟩ | ⟨y1, d8, r9, k3, h2⟩
    · rcases hq with ⟨z1, z2⟩ | ⟨z1, z2⟩
      · exact absurd z1 x1
      · exact absurd z2 y1
    · obtain ⟨e1, e2⟩ := oI h2
      obtain ⟨e3, e4⟩ := oI h
      obtain ⟨z1, z2, z3⟩ := fail_pr hT hf (by decide) k1 rfl rfl k3 rfl rfl
      exact bad (by omega) (by omega) (by rw [e1, e3]; exact z3)
/-- any part -/
theorem kp : km 0 = 0 ∧ km 1 = 8 ∧ km 2 = 1 ∧ km 3 = 9 ∧ km 4 = 10 ∧ km 5 = 11 ∧ km 6 = 2 ∧ km 7 = 3 ∧ km 8 = 4 ∧ km 9 = 12 ∧ km 10 = 13 ∧ km 11 = 5 ∧ km 12 = 6 ∧ km 13 = 7 ∧ ∀ i, i < 25 → 13 < i → 7 < km i := by decide +kernel
theorem part_pr {np nq : Nat} (hS : SY c d m np nq) (h : zr sv L n 38 0 lf [] c (c', some (0, r))) (h0 : lf 0 = (4, 90)) (h' : zr sv L n' 171 0 lf' [] d (d', some (0, r'))) (h0' : lf' 0 = (4, 253)) : ST c c' d' r r' m := by
  have hS0 := hS
  obtain ⟨hE, hT, hD, hf⟩ := hS
  obtain ⟨d1, r2, k1, h'⟩ := m_part h' h0'
  obtain ⟨e1, e2⟩ := tq_key hE hT k1 rfl rfl
  rw [e1] at h'
  obtain ⟨p0, p1, p2, p3, p4, p5, p6, p7, p8, p9, p10, p11, p12, p13, p14⟩ := kp
  have no : (r2 < 0 ∨ 7 < r2) → ∀ {g : cg} {r4 : Int}, zr sv L n 39 0 (darg 0 [(4, 88), (0, 2)]) [] c (g, some (0, r4)) → (c', (some (0, r) : Option cv)) = (g, some (0, r4)) → ST c c' d' r r' m := by
    intro hr g r4 k2 h
    rcases h' with ⟨y, -⟩ | ⟨y, -⟩ | ⟨y, -⟩ | ⟨y, -⟩ | ⟨y, -⟩ | ⟨y, -⟩ | ⟨y, -⟩ | ⟨y, -⟩ | ⟨y, d2, r3, k3, h'⟩
    · omega
    · omega
    · omega
    · omega
    · omega
    · omega
    · omega
    · omega
    · obtain ⟨l1, l2⟩ := oI h
      obtain ⟨l3, l4⟩ := oI h'
      obtain ⟨z1, z2, z3⟩ := fail_pr hT hf (by decide) k2 rfl rfl k3 rfl rfl
      exact Or.inr ⟨by omega, by omega, by rw [l1, l3]; exact z3⟩
  have key : ∀ i : Nat, i ≤ 13 → c 88 7 = (i : Int) → r2 = (km i : Int) := by
    intro i hi hc
    rcases e2 with ⟨z1, z2⟩ | ⟨j, z1, z2, z3⟩
    · omega
    · have : j = i := by omega
      rw [z3, this]
  rcases t_takePart h h0 with ⟨x, g1, r3, k2, h⟩ | ⟨x, g1, r3, k2, h⟩ | ⟨x, g1, r3, k2, h⟩ | ⟨x, g1, r3, k2, h⟩ | ⟨x, g1, r3, k2, h⟩ | ⟨x, g1, r3, k2, h⟩ | ⟨x, g1, r3, k2, h⟩ | ⟨x, g1, r3, k2, h⟩ | ⟨x, g1, r3, k2, h⟩ | ⟨x, g1, r3, k2, h⟩ | ⟨x, g1, r3, k2, h⟩ | ⟨x, g1, r3, k2, h⟩ | ⟨x, g1, r3, k2, h⟩ | ⟨x, g1, r3, k2, h⟩ | ⟨x, g1, r3, k2, h⟩
  · have hr := key 0 (by decide) x
    rw [p0] at hr
    obtain ⟨l1, l2⟩ := oI h
    rcases h' with ⟨y, d2, r4, k3, lx, z0, z1, h'⟩ | ⟨y, -⟩ | ⟨y, -⟩ | ⟨y, -⟩ | ⟨y, -⟩ | ⟨y, -⟩ | ⟨y, -⟩ | ⟨y, -⟩ | ⟨y, -⟩
    · rw [l1, l2]
      exact place_pr hS0 (by omega) k2 rfl k3 rfl h' z0 z1
    all_goals omega
  · have hr := key 1 (by decide) x
    rw [p1] at hr
    exact no (by omega) k2 h
  · have hr := key 2 (by decide) x
    rw [p2] at hr
    obtain ⟨l1, l2⟩ := oI h
    rcases h' with ⟨y, -⟩ | ⟨y, d2, r4, k3, lx, z0, z1, h'⟩ | ⟨y, -⟩ | ⟨y, -⟩ | ⟨y, -⟩ | ⟨y, -⟩ | ⟨y, -⟩ | ⟨y, -⟩ | ⟨y, -⟩
    · omega
    · rw [l1, l2]
      exact person_pr hS0 (by omega) k2 rfl k3 rfl h' z0 z1
    all_goals omega
  · have hr := key 3 (by decide) x
    rw [p3] at hr
    exact no (by omega) k2 h
  · have hr := key 4 (by decide) x
    rw [p4] at hr
    exact no (by omega) k2 h
  · have hr := key 5 (by decide) x
    rw [p5] at hr
    exact no (by omega) k2 h
  · have hr := key 6 (by decide) x
    rw [p6] at hr
    obtain ⟨l1, l2⟩ := oI h
    rcases h' with ⟨y, -⟩ | ⟨y, -⟩ | ⟨y, d2, r4, k3, lx, z0, z1, h'⟩ | ⟨y, -⟩ | ⟨y, -⟩ | ⟨y, -⟩ | ⟨y, -⟩ | ⟨y, -⟩ | ⟨y, -⟩
    · omega
    · omega
    · rw [l1, l2]
      exact twins_pr hS0 (by omega) k2 rfl k3 rfl rfl h' z0 z1
    all_goals omega
  · have hr := key 7 (by decide) x
    rw [p7] at hr
    obtain ⟨l1, l2⟩ := oI h
    rcases h' with ⟨y, -⟩ | ⟨y, -⟩ | ⟨y, -⟩ | ⟨y, d2, r4, k3, lx, z0, z1, h'⟩ | ⟨y, -⟩ | ⟨y, -⟩ | ⟨y, -⟩ | ⟨y, -⟩ | ⟨y, -⟩
    · omega
    · omega
    · omega
    · rw [l1, l2]
      exact knows_pr hS0 (by omega) k2 rfl k3 rfl rfl h' z0 z1
    all_goals omega
  · have hr := key 8 (by decide) x
    rw [p8] at hr
    obtain ⟨l1, l2⟩ := oI h
    rcases h' with ⟨y, -⟩ | ⟨y, -⟩ | ⟨y, -⟩ | ⟨y, -⟩ | ⟨y, d2, r4, k3, lx, z0, z1, h'⟩ | ⟨y, -⟩ | ⟨y, -⟩ | ⟨y, -⟩ | ⟨y, -⟩
    · omega
    · omega
    · omega
    · omega
    · rw [l1, l2]
      exact was_pr hS0 (by omega) k2 rfl k3 rfl h' z0 z1
    all_goals omega
  · have hr := key 9 (by decide) x
    rw [p9] at hr
    exact no (by omega) k2 h
  · have hr := key 10 (by decide) x
    rw [p10] at hr
    exact no (by omega) k2 h
  · have hr := key 11 (by decide) x
    rw [p11] at hr
    obtain ⟨l1, l2⟩ := oI h
    rcases h' with ⟨y, -⟩ | ⟨y, -⟩ | ⟨y, -⟩ | ⟨y, -⟩ | ⟨y, -⟩ | ⟨y, d2, r4, k3, lx, z0, z1, h'⟩ | ⟨y, -⟩ | ⟨y, -⟩ | ⟨y, -⟩
    · omega
    · omega
    · omega
    · omega
    · omega
    · rw [l1, l2]
      exact rate_pr (k := 0) (by decide) (Or.inr ⟨by decide, rfl⟩) hS0 (by omega) k2 rfl rfl rfl k3 rfl rfl h' z0 z1
    all_goals omega
  · have hr := key 12 (by decide) x
    rw [p12] at hr
    obtain ⟨l1, l2⟩ := oI h
    rcases h' with ⟨y, -⟩ | ⟨y, -⟩ | ⟨y, -⟩ | ⟨y, -⟩ | ⟨y, -⟩ | ⟨y, -⟩ | ⟨y, d2, r4, k3, lx, z0, z1, h'⟩ | ⟨y, -⟩ | ⟨y, -⟩
    · omega
    · omega
    · omega
    · omega
    · omega
    · omega
    · rw [l1, l2]
      exact rate_pr (k := 1) (by decide) (Or.inr ⟨by decide, rfl⟩) hS0 (by omega) k2 rfl rfl rfl k3 rfl rfl h' z0 z1
    all_goals omega
  · have hr := key 13 (by decide) x
    rw [p13] at hr
    obtain ⟨l1, l2⟩ := oI h
    rcases h' with ⟨y, -⟩ | ⟨y, -⟩ | ⟨y, -⟩ | ⟨y, -⟩ | ⟨y, -⟩ | ⟨y, -⟩ | ⟨y, -⟩ | ⟨y, d2, r4, k3, lx, z0, z1, h'⟩ | ⟨y, -⟩
    · omega
    · omega
    · omega
    · omega
    · omega
    · omega
    · omega
    · rw [l1, l2]
      exact rate_pr (k := 2) (by decide) (Or.inl ⟨rfl, rfl⟩) hS0 (by omega) k2 rfl rfl rfl k3 rfl rfl h' z0 z1
    · omega
  · refine no ?_ k2 h
    rcases e2 with ⟨z1, z2⟩ | ⟨j, z1, z2, z3⟩
    · omega
    · have := p14 j z1 (by omega)
      omega
end Stm3
