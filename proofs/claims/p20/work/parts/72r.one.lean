/-! a person told, and persons named -/
theorem FLT.up {c d c' d' : cg} (h : FLT c d) (h1 : c' 88 = c 88) (h2 : d' 253 = d 253) : FLT c' d' := by
  unfold FLT at *
  rw [h1, h2]
  exact h
theorem n6 {i : Nat} (h : i < 8) : w32 (2991 + w32 (6 * (i : Int))) = ((2991 + 6 * i : Nat) : Int) := by
  rw [w32_id (z := 6 * (i : Int)) (by omega) (by omega), w32_id (by omega) (by omega)]
  omega
theorem n6e {i : Nat} (h : i < 8) {e : Int} (h0 : 0 ≤ e) (h1 : e < 16) : w32 (((2991 + 6 * i : Nat) : Int) + e) = ((2991 + 6 * i : Nat) : Int) + e := w32_id (by omega) (by omega)
theorem n6t {i : Nat} (h : i < 8) {e : Int} (h0 : 0 ≤ e) (h1 : e < 16) : (w32 (w32 (2991 + w32 (6 * (i : Int))) + e)).toNat = 2991 + 6 * i + e.toNat := by
  rw [n6 h, n6e h h0 h1]
  omega
theorem n8t {i t : Nat} (h : i < 8) (ht : t < 16) : (w32 (w32 (3027 + w32 (8 * (i : Int))) + (t : Int))).toNat = 3027 + 8 * i + t := by
  rw [w32_id (z := 8 * (i : Int)) (by omega) (by omega), w32_id (z := 3027 + 8 * (i : Int)) (by omega) (by omega), w32_id (by omega) (by omega)]
  omega
section One
variable {sv : Nat → Int32} {L : Nat} {n n' : Nat} {lf lf' : dlf} {c d c' d' : cg} {m : Nat} {r r' : Int}
/-- passIfThere(key) and isThere(key), in one -/
theorem thr2_pr {i : Nat} (hi : i < 25) (hE : TE c d m) (hT : TQ c d m) (h : zr sv L n 57 0 lf [] c (c', some (0, r))) (h0 : lf 0 = (4, 88)) (h1 : lf 1 = (0, (i : Int))) (h' : zr sv L n' 189 0 lf' [] d (d', some (0, r'))) (h0' : lf' 0 = (4, 253)) (h1' : lf' 1 = (0, (km i : Int))) : r' = r ∧ (r = 0 ∨ r = 1) ∧ SU c d c' d' m := by
  rcases thr_pr hi hE hT h h0 h1 h' h0' h1' with ⟨x1, x2, x3⟩ | ⟨x1, x2, x3, x4⟩
  · exact ⟨by omega, by omega, x3⟩
  · refine ⟨by omega, by omega, ?_⟩
    rw [x3, x4]
    exact ⟨⟨FT.rf c, Int.le_refl _⟩, FM.rf d, hE, hT⟩
/-- passPerson(draft): which one -/
theorem per_rd {nq : Nat} (hn : c 45 3 = (nq : Int)) (hq : nq ≤ 6) (hE : TE c d m) (hT : TQ c d m) (h : zr sv L n 44 0 lf [] c (c', some (0, r))) (h0 : lf 0 = (4, 88)) (h1 : lf 1 = (4, 45)) : (c 88 4 ≠ 2 ∧ r = -1) ∨ (c 88 4 = 2 ∧ ∃ q, FI (fun i => c (59 + 2 * i) 0) nq (c 88 6) q ∧ ((q ≠ -1 ∧ r = q ∧ FTM c' c) ∨ (q = -1 ∧ r = -1))) := by
  rcases t_passPer h h0 h1 with ⟨x1, lf2, b0, b2, h⟩ | ⟨x1, g3, r4, k2, lf2, b0, b2, h⟩
  · refine Or.inl ⟨x1, ?_⟩
    rcases t_passPer21 h b0 b2 with ⟨w1, w2⟩ | ⟨w1, ⟨w2, g4, r5, k4, w3⟩ | ⟨w2, w3⟩⟩
    · exact absurd rfl w1
    · exact (oI w3).2
    · exact absurd w2 x1
  · obtain ⟨e3, e4⟩ := per_ok k2 rfl rfl hn hq
    rw [e3] at h
    refine Or.inr ⟨x1, r4, e4, ?_⟩
    rcases t_passPer21 h b0 b2 with ⟨w1, g2, k5, w2⟩ | ⟨w1, ⟨w2, w3⟩ | ⟨w2, g6, r7, k5, w3⟩⟩
    · obtain ⟨e5, e6⟩ := oI w2
      obtain ⟨f1, f2⟩ := adv_lt hE hT (Or.inr (Or.inl x1)) k5 rfl
      refine Or.inl ⟨w1, e6, ?_⟩
      rw [e5]
      exact ⟨f1, Int.le_of_lt f2⟩
    · exact absurd x1 w2
    · obtain ⟨e5, e6⟩ := oI w3
      exact Or.inr ⟨w1, by rw [e6]; exact w1⟩
/-- a person named, and the reference's oneOf(but, to, twin) -/
theorem one_pr {np nq to : Nat} {a cc : Int} (hto : to = 3716 ∨ to = 3717) (hE : TE c d m) (hT : TQ c d m) (hD : DR c d np nq) (hf : d 253 18 = 0) (h : zr sv L n 44 0 lf [] c (c', some (0, r))) (h0 : lf 0 = (4, 88)) (h1 : lf 1 = (4, 45)) (h' : zr sv L n' 186 0 lf' [] d (d', some (0, r'))) (h0' : lf' 0 = (4, 253)) (h1' : lf' 1 = (0, a)) (h2' : lf' 2 = (0, (to : Int))) (h3' : lf' 3 = (0, cc)) :
    (r' = 1 ∧ (∃ i : Nat, i < nq ∧ r = (i : Int) ∧ r ≠ a ∧ (cc ≠ 0 → d 254 (2991 + 6 * i + 3) = -1)) ∧ SU c (cup d 254 to r) c' d' m) ∨ (r = -1 ∧ r' = 0 ∧ FLT c' d') ∨
    (r' = 0 ∧ (∃ i : Nat, i < nq ∧ r = (i : Int) ∧ (r = a ∨ (cc ≠ 0 ∧ d 254 (2991 + 6 * i + 3) ≠ -1))) ∧ FTM c' c ∧ d' 253 18 = 5 ∧ d' 253 17 = c 88 5) := by
  obtain ⟨⟨a1, a2⟩, ⟨b1, b2, b3, b4⟩, a4, a5, -⟩ := hD
  have go : ∀ {lfx : dlf}, lfx 0 = (4, 253) → lfx 2 = (0, (to : Int)) → zr sv L n' 186 67 lfx [] d (d', some (0, r')) → (r' = 1 ∧ (∃ i : Nat, i < nq ∧ r = (i : Int)) ∧ SU c (cup d 254 to r) c' d' m) ∨ (r = -1 ∧ r' = 0 ∧ FLT c' d') := by
    intro lfx z0 z2 hx
    obtain ⟨g1, r2, k1, e⟩ := m_oneOf67 hx z0 z2
    obtain ⟨e1, e2⟩ := oI e
    obtain ⟨g3, r4, k2, e'⟩ := m_newPer k1 rfl rfl
    obtain ⟨e3, e4⟩ := oI e'
    rw [b4] at k2
    rw [e2, e4, e1, e3]
    exact oper_pr (k := nq) (to := to) a2 b3 a5 (by omega) hE hT hf h h0 h1 k2 rfl rfl rfl rfl
  obtain ⟨g1, r2, k1, h'⟩ := m_oneOf h' h0' h1' h2' h3'
  obtain ⟨e1, e2⟩ := tq_name hE hT k1 rfl rfl
  rw [e1] at h'
  rcases h' with ⟨y1, lf4, z0, z2, h'⟩ | ⟨y1, g5, r6, k2, h'⟩
  · rcases go z0 z2 h' with ⟨w1, ⟨i, w2, w3⟩, w4⟩ | w
    · exfalso
      have hx : c 88 4 ≠ 2 := by
        rcases e2 with ⟨u1, u2⟩ | ⟨u1, u2⟩
        · omega
        · exact u1
      rcases per_rd b3 a2 hE hT h h0 h1 with ⟨x1, x2⟩ | ⟨x1, x2⟩
      · omega
      · exact hx x1
    · exact Or.inr (Or.inl w)
  · have hk2 : c 88 4 = 2 := by
      rcases e2 with ⟨u1, u2⟩ | ⟨u1, u2⟩
      · exact u1
      · exact absurd u2 y1
    obtain ⟨V, hV, hNR⟩ := tq_nh (sv := sv) (L := L) hE hT hk2
    rw [b4] at k2
    obtain ⟨e3, e4⟩ := fnd_ok (b := 53) (k := nq) k2 rfl rfl rfl hV (by omega)
    rw [e3] at h'
    rcases per_rd b3 a2 hE hT h h0 h1 with ⟨x1, x2⟩ | ⟨x1, q, x2, x3⟩
    · exact absurd hk2 x1
    · obtain ⟨e5, e6⟩ := FI_eq x2 e4 (fun i hi => NR_eq (a5 i hi) hNR)
      rcases h' with ⟨y2, lf8, z0, z2, h'⟩ | ⟨y2, h'⟩
      · rcases go z0 z2 h' with ⟨w1, ⟨i, w2, w3⟩, w4⟩ | w
        · exfalso
          rcases x3 with ⟨u1, u2, u3⟩ | ⟨u1, u2⟩
          · omega
          · omega
        · exact Or.inr (Or.inl w)
      · have hx : r = q ∧ FTM c' c := by
          rcases x3 with ⟨u1, u2, u3⟩ | ⟨u1, u2⟩
          · exact ⟨u2, u3⟩
          · exact absurd (by rw [← e5]; exact u1) y2
        obtain ⟨hx1, hx2⟩ := hx
        have hi : ∃ i : Nat, i < nq ∧ q = (i : Int) := by
          rcases e6 with z | z
          · exact absurd (by rw [← e5]; exact z) y2
          · exact z
        obtain ⟨i, i1, i2⟩ := hi
        have hb : d 253 12 ≠ 1 := fun e => by
          have := (tq_bad hT).mpr e
          omega
        have f5 : ∀ {g : cg} {r7 : Int}, zr sv L n' 173 0 (darg 0 [(4, 253), (0, 5)]) [] d (g, some (0, r7)) → d' = g → r' = r7 → r' = 0 ∧ d' 253 18 = 5 ∧ d' 253 17 = c 88 5 := by
          intro g r7 k3 l1 l2
          rcases t_fails k3 rfl rfl with ⟨x1, x2⟩ | ⟨x1, ⟨x2, x3⟩ | ⟨x2, x3⟩⟩
          · exact absurd hf x1
          · obtain ⟨m1, m2⟩ := oI x3
            refine ⟨by rw [l2, m2], ?_, ?_⟩
            · rw [l1, m1, cup_ne (by decide), cup_at]
            · rw [l1, m1, cup_at]; exact (tq_st hT).symm
          · exact absurd x2 hb
        rcases h' with ⟨y3, g10, r11, k3, h'⟩ | ⟨y3, h'⟩
        · obtain ⟨l1, l2⟩ := oI h'
          obtain ⟨l3, l4, l5⟩ := f5 k3 l1 l2
          exact Or.inr (Or.inr ⟨l3, ⟨i, i1, by omega, Or.inl (by omega)⟩, hx2, l4, l5⟩)
        · have ok : ∀ {lfx : dlf}, lfx 0 = (4, 253) → lfx 2 = (0, (to : Int)) → zr sv L n' 186 67 lfx [] d (d', some (0, r')) → (cc ≠ 0 → d 254 (2991 + 6 * i + 3) = -1) →
              (r' = 1 ∧ (∃ i : Nat, i < nq ∧ r = (i : Int) ∧ r ≠ a ∧ (cc ≠ 0 → d 254 (2991 + 6 * i + 3) = -1)) ∧ SU c (cup d 254 to r) c' d' m) ∨ (r = -1 ∧ r' = 0 ∧ FLT c' d') ∨
              (r' = 0 ∧ (∃ i : Nat, i < nq ∧ r = (i : Int) ∧ (r = a ∨ (cc ≠ 0 ∧ d 254 (2991 + 6 * i + 3) ≠ -1))) ∧ FTM c' c ∧ d' 253 18 = 5 ∧ d' 253 17 = c 88 5) := by
            intro lfx z0 z2 hy ht
            rcases go z0 z2 hy with ⟨w1, -, w4⟩ | w
            · exact Or.inl ⟨w1, ⟨i, i1, by omega, by omega, ht⟩, w4⟩
            · exact Or.inr (Or.inl w)
          rcases h' with ⟨y4, lf13, z0, z2, h'⟩ | ⟨y4, h'⟩
          · exact ok z0 z2 h' (fun e => absurd y4 e)
          · have ew : w32 (w32 (2991 + w32 (6 * r6)) + 3) = ((2991 + 6 * i + 3 : Nat) : Int) := by
              rw [← e5, i2, n6 (by omega), n6e (by omega) (by decide) (by decide)]
              rfl
            rw [ew] at h'
            have h' := h' (by omega) (by omega)
            rw [show (((2991 + 6 * i + 3 : Nat) : Int)).toNat = 2991 + 6 * i + 3 from rfl] at h'
            rcases h' with ⟨y5, lf17, z0, z2, h'⟩ | ⟨y5, g18, r19, k3, h'⟩
            · exact ok z0 z2 h' (fun _ => y5)
            · obtain ⟨l1, l2⟩ := oI h'
              obtain ⟨l3, l4, l5⟩ := f5 k3 l1 l2
              exact Or.inr (Or.inr ⟨l3, ⟨i, i1, by omega, Or.inr ⟨y4, y5⟩⟩, hx2, l4, l5⟩)
/-- a person -/
theorem person_pr {np nq : Nat} {d1 : cg} {r1 : Int} (hS : SY c d m np nq) (hk : c 88 7 ≠ -1) (h : zr sv L n 54 0 lf [] c (c', some (0, r))) (h0 : lf 0 = (4, 90)) {lf2 : dlf} (h2 : zr sv L n' 187 0 lf2 [] d (d1, some (0, r1))) (h20 : lf2 0 = (4, 253)) (h' : zr sv L n' 171 129 lf' [] d1 (d', some (0, r'))) (h0' : lf' 0 = (4, 253)) (h1' : lf' 1 = (0, r1)) : ST c c' d' r r' m := by
  obtain ⟨hE, hT, hD, hf⟩ := hS
  have hD0 := hD
  obtain ⟨⟨a1, a2⟩, ⟨b1, b2, b3, b4⟩, -⟩ := hD0
  obtain ⟨g1, r2, k1, h2⟩ := m_aPerson h2 h20
  have bad : r1 = 0 → r = 0 → FLT c' d1 → ST c c' d' r r' m := by
    intro z1 z2 z3
    obtain ⟨e1, e2⟩ := end_0 h' h0' h1' z1
    exact Or.inr ⟨z2, e2, by rw [e1]; exact z3⟩
  rcases t_takePer h h0 with ⟨x1, g2, k2, g3, r4, k3, h⟩ | ⟨x1, g16, r17, k2, h⟩
  · rw [b3] at x1
    have et : w32 (2991 + w32 (6 * d 254 2977)) = ((2991 + 6 * nq : Nat) : Int) := by
      rw [b4, n6 (by omega)]
    rw [et, show (w32 (((2991 + 6 * nq : Nat) : Int) + 1)).toNat = 2991 + 6 * nq + 1 by rw [n6e (by omega) (by decide) (by decide)]; omega, show (w32 (((2991 + 6 * nq : Nat) : Int) + 2)).toNat = 2991 + 6 * nq + 2 by rw [n6e (by omega) (by decide) (by decide)]; omega, show (w32 (((2991 + 6 * nq : Nat) : Int) + 3)).toNat = 2991 + 6 * nq + 3 by rw [n6e (by omega) (by decide) (by decide)]; omega] at h2
    rcases m_newPers k1 rfl rfl rfl rfl with ⟨y1, d2, k4, hn⟩ | ⟨y1, y2⟩
    · obtain ⟨s1, s2, s3, s4⟩ := adv_su (c0 := c) hE hT (Or.inl (tq_kk hT hk)) k2 rfl k4 rfl
      have hD2 := hD.fr s1.o8 s2.om
      have hf2 : d2 253 18 = 0 := s2.om.2.2.trans hf
      rcases new_pr s3 s4 hD2 hf2 k3 rfl hn with ⟨z1, z2, z3, ⟨d3, V', k5, d4, k6, z4⟩, V, z5, z6⟩ | ⟨z1, d9, r10, z2, z3, z4⟩
      · obtain ⟨e1, e2⟩ := z5 _ _ _ _ k5 rfl
        rw [e1, e2, show (w32 (53 + (d2 254 2977))).toNat = 53 + nq by rw [hD2.2.1.2.2.2, w32_id (by omega) (by omega)]; omega] at k6
        obtain ⟨e3, e4⟩ := oI z4
        rcases h with ⟨u1, h⟩ | ⟨u1, u2⟩
        · have hn3 : g2 45 3 = (nq : Int) := hD2.2.1.2.2.1
          rw [z2, hn3] at h
          obtain ⟨g8, k7, g9, k8, g10, r11, k9, h⟩ := h (by omega) (by omega)
          rw [show (59 + 2 * (nq : Int)).toNat = 59 + 2 * nq by omega] at h
          have hB : BG g8 g2 nq (g2 88 6) := beg_ok (i := nq) (by omega) k7 rfl rfl
          have row : ∀ k : Nat, k ≠ 59 + 2 * nq → k ≠ 60 + 2 * nq → g8 k = g2 k := fun k x y => funext fun j => hB.1 k j x y
          have q1 : g8 88 = g2 88 := row 88 (by omega) (by omega)
          have q2 : g8 2 = g2 2 := row 2 (by omega) (by omega)
          have q3 : g8 89 = g2 89 := row 89 (by omega) (by omega)
          have q4 : cup d2 255 (53 + nq) V 253 = d2 253 := cup_row d2 _ _ (by decide)
          have q5 : cup d2 255 (53 + nq) V 260 = d2 260 := cup_row d2 _ _ (by decide)
          obtain ⟨v1, v2, v3, v4⟩ := adv_su (c0 := c) (s3.up q1 q2 q3 q4 q5) (s4.up q1 q4 q5) (Or.inr (Or.inl (by rw [q1]; exact z3))) k8 rfl k6 rfl
          have hf3 : d4 253 18 = 0 := by rw [v2.om.2.2, q4]; exact hf2
          rw [e3] at h2
          rcases h2 with ⟨w1, w2⟩ | ⟨w1, d5, r5, k10, h2⟩
          · omega
          · rcases pass_pr (i := 3) (by decide) v3 v4 hf3 k9 rfl rfl k10 rfl rfl rfl with ⟨f1, f2, f3, f4, f5, f6⟩ | ⟨f1, f2, f3⟩
            · have hf5 : d5 253 18 = 0 := f4.om.2.2.trans hf3
              rcases h2 with ⟨w2, w3⟩ | ⟨w2, d7, r8, k11, h2⟩
              · omega
              · rcases h with ⟨j1, g13, r14, k12, h⟩ | ⟨j1, j2⟩
                · rcases num_pr (lo := 0) (hi := 999) (to := ((2991 + 6 * nq : Nat) : Int)) (by decide) f5 f6 hf5 k12 rfl rfl rfl k11 rfl rfl rfl rfl with ⟨i1, i2, i3, i4, i5, i6, i7⟩ | ⟨i1, i2, i3⟩
                  · rw [show (((2991 + 6 * nq : Nat) : Int)).toNat = 2991 + 6 * nq from rfl] at i5
                    have hf7 : d7 253 18 = 0 := by
                      rw [i5.om.2.2, cup_ne (by omega)]
                      exact hf5
                    rcases h with ⟨p1, g16, r17, k13, g18, r19, k14, g20, r21, k15, h⟩ | ⟨p1, p2⟩
                    · rcases h2 with ⟨w4, d8, r11', k16, h2⟩ | ⟨w4, w5⟩
                      · have a88 : ∀ (g : cg) (j : Nat) (v : Int), cup g (59 + 2 * nq) j v 88 = g 88 := fun g j v => cup_row g _ _ (by omega)
                        have a2' : ∀ (g : cg) (j : Nat) (v : Int), cup g (59 + 2 * nq) j v 2 = g 2 := fun g j v => cup_row g _ _ (by omega)
                        have a89 : ∀ (g : cg) (j : Nat) (v : Int), cup g (59 + 2 * nq) j v 89 = g 89 := fun g j v => cup_row g _ _ (by omega)
                        have b53 : ∀ (g : cg) (j : Nat) (v : Int), cup g 254 j v 253 = g 253 := fun g j v => cup_row g _ _ (by decide)
                        have b60 : ∀ (g : cg) (j : Nat) (v : Int), cup g 254 j v 260 = g 260 := fun g j v => cup_row g _ _ (by decide)
                        obtain ⟨m1, m2, m3, m4, m5, m6⟩ := thr2_pr (i := 4) (by decide) (i6.up (a88 g13 1 r14) (a2' g13 1 r14) (a89 g13 1 r14) rfl rfl) (i7.up (a88 g13 1 r14) rfl rfl) k13 rfl rfl k16 rfl rfl
                        have hf8 : d8 253 18 = 0 := m4.om.2.2.trans hf7
                        have fin : ∀ x : Int, x = r17 → (∃ (d9 : cg) (r9 : Int), zr sv L n' 189 0 (darg 0 [(4, 253), (0, 11)]) [] (cup d8 254 (2991 + 6 * nq + 1) x) (d9, some (0, r9)) ∧
                            ((r9 = 0 ∧ (d1, (some (0, r1) : Option cv)) = (cup (cup (cup d9 254 (2991 + 6 * nq + 2) 0) 254 (2991 + 6 * nq + 3) (-1)) 254 2977 (w32 ((cup (cup d9 254 (2991 + 6 * nq + 2) 0) 254 (2991 + 6 * nq + 3) (-1)) 254 2977 + 1)), some (0, 1))) ∨
                             (r9 ≠ 0 ∧ (d1, (some (0, r1) : Option cv)) = (cup (cup (cup d9 254 (2991 + 6 * nq + 2) 1) 254 (2991 + 6 * nq + 3) (-1)) 254 2977 (w32 ((cup (cup d9 254 (2991 + 6 * nq + 2) 1) 254 (2991 + 6 * nq + 3) (-1)) 254 2977 + 1)), some (0, 1))))) → ST c c' d' r r' m := by
                          intro x hx hh
                          rw [hx] at hh
                          obtain ⟨d9, r9, k17, hh⟩ := hh
                          obtain ⟨o1, o2, o3, o4, o5, o6⟩ := thr2_pr (i := 5) (by decide) (m5.up (a88 g16 2 r17) (a2' g16 2 r17) (a89 g16 2 r17) (b53 d8 (2991 + 6 * nq + 1) r17) (b60 d8 (2991 + 6 * nq + 1) r17)) (m6.up (a88 g16 2 r17) (b53 d8 (2991 + 6 * nq + 1) r17) (b60 d8 (2991 + 6 * nq + 1) r17)) k14 rfl rfl k17 rfl rfl
                          have hf9 : d9 253 18 = 0 := by
                            rw [o4.om.2.2, b53]
                            exact hf8
                          have fin2 : ∀ y : Int, y = r19 → (d1, (some (0, r1) : Option cv)) = (cup (cup (cup d9 254 (2991 + 6 * nq + 2) y) 254 (2991 + 6 * nq + 3) (-1)) 254 2977 (w32 ((cup (cup d9 254 (2991 + 6 * nq + 2) y) 254 (2991 + 6 * nq + 3) (-1)) 254 2977 + 1)), some (0, 1)) → ST c c' d' r r' m := by
                            intro y hy he
                            rw [hy] at he
                            obtain ⟨l1, l2⟩ := oI he
                            have hc9 : d9 254 2977 = (nq : Int) := by
                              rw [o4.om.1 254 (by decide), cup_ne (by omega), m4.om.1 254 (by decide), i5.om.1 254 (by decide), cup_ne (by omega), f4.om.1 254 (by decide), v2.om.1 254 (by decide), cup_ne (by omega)]
                              exact hD2.2.1.2.2.2
                            have hcc : cup (cup d9 254 (2991 + 6 * nq + 2) r19) 254 (2991 + 6 * nq + 3) (-1) 254 2977 = (nq : Int) := by
                              rw [cup_ne (by omega), cup_ne (by omega)]
                              exact hc9
                            rw [hcc, show w32 ((nq : Int) + 1) = ((nq + 1 : Nat) : Int) from w32_id (by omega) (by omega)] at l1
                            have q6 : d1 253 = d9 253 := by rw [l1, b53, b53, b53]
                            have q7 : d1 260 = d9 260 := by rw [l1, b60, b60, b60]
                            rcases end_pr (np := np) (nq := nq) (o5.up (a88 g18 3 r19) (a2' g18 3 r19) (a89 g18 3 r19) q6 q7) (o6.up (a88 g18 3 r19) q6 q7) (by rw [q6]; exact hf9) k15 rfl h' h0' h1' (by omega) with ⟨t1, t2, t3, t4, t5, t6⟩ | ⟨t1, t2, t3⟩
                            · rcases h with ⟨p2, p3⟩ | ⟨p2, p3⟩
                              · obtain ⟨l3, l4⟩ := oI p3
                                have hC : O8 g20 (cup (cup (cup g8 (59 + 2 * nq) 1 r14) (59 + 2 * nq) 2 r17) (59 + 2 * nq) 3 r19) := t3.o8.tr ((o3.o8.tr ((m3.o8.tr ((i4.o8.tr (f3.o8.tr v1.o8)).cup (59 + 2 * nq) 1 r14)).cup (59 + 2 * nq) 2 r17)).cup (59 + 2 * nq) 3 r19)
                                have hn20 : g20 45 3 = (nq : Int) := by
                                  rw [hC 45 (by decide), cup_ne (by omega), cup_ne (by omega), cup_ne (by omega), row 45 (by omega) (by omega)]
                                  exact hn3
                                rw [hn20, show w32 ((nq : Int) + 1) = ((nq + 1 : Nat) : Int) from w32_id (by omega) (by omega)] at l3
                                have hd' : OM d' (cup (cup (cup (cup (cup (cup d2 255 (53 + nq) V) 254 (2991 + 6 * nq) r14) 254 (2991 + 6 * nq + 1) r17) 254 (2991 + 6 * nq + 2) r19) 254 (2991 + 6 * nq + 3) (-1)) 254 2977 ((nq + 1 : Nat) : Int)) := by
                                  refine t4.om.tr ?_
                                  rw [l1]
                                  exact (((o4.om.tr ((m4.om.tr (i5.om.tr ((f4.om.tr v2.om).cup (by decide) _ _))).cup (by decide) _ _)).cup (by decide) _ _).cup (by decide) _ _).cup (by decide) _ _
                                have hD' := (hD2.person (w := g2 88 6) (V := V) (pu := r14) (ch := r17) (bi := r19) (by omega) hB z6 ⟨i2, i3⟩).fr (hC.cup 45 3 ((nq + 1 : Nat) : Int)) hd'
                                have q8 : cup g20 45 3 ((nq + 1 : Nat) : Int) 88 = g20 88 := cup_row g20 _ _ (by decide)
                                have q9 : cup g20 45 3 ((nq + 1 : Nat) : Int) 2 = g20 2 := cup_row g20 _ _ (by decide)
                                have q10 : cup g20 45 3 ((nq + 1 : Nat) : Int) 89 = g20 89 := cup_row g20 _ _ (by decide)
                                refine Or.inl ⟨l4, t2, ⟨np, nq + 1, ?_⟩, ?_⟩
                                · rw [l3]
                                  refine ⟨t5.up q8 q9 q10 rfl rfl, t6.up q8 rfl rfl, hD', ?_⟩
                                  rw [t4.om.2.2, q6]
                                  exact hf9
                                · rw [l3, q8]
                                  have j1 := (adv_lt hE hT (Or.inl (tq_kk hT hk)) k2 rfl).2
                                  have j2 := v1.2
                                  rw [q1] at j2
                                  have j3 := f3.2
                                  have j4 := i4.2
                                  have j5 := m3.2
                                  rw [a88] at j5
                                  have j6 := o3.2
                                  rw [a88] at j6
                                  have j7 := t3.2
                                  rw [a88] at j7
                                  omega
                              · omega
                            · rcases h with ⟨p2, p3⟩ | ⟨p2, p3⟩
                              · omega
                              · obtain ⟨l3, l4⟩ := oI p3
                                exact Or.inr ⟨l4, t2, by rw [l3]; exact t3⟩
                          rcases hh with ⟨w7, hh⟩ | ⟨w7, hh⟩
                          · exact fin2 0 (by omega) hh
                          · exact fin2 1 (by omega) hh
                        rcases h2 with ⟨w6, h2⟩ | ⟨w6, h2⟩
                        · exact fin 0 (by omega) h2
                        · exact fin 1 (by omega) h2
                      · omega
                    · omega
                  · rcases h2 with ⟨w4, w5⟩ | ⟨w4, w5⟩
                    · omega
                    · obtain ⟨l1, l2⟩ := oI w5
                      rcases h with ⟨p1, p2⟩ | ⟨p1, p2⟩
                      · omega
                      · obtain ⟨l3, l4⟩ := oI p2
                        exact bad l2 l4 (by rw [l3, l1]; exact i3.up (cup_row g13 _ _ (by omega)) rfl)
                · omega
            · rcases h2 with ⟨w2, w3⟩ | ⟨w2, w3⟩
              · obtain ⟨l1, l2⟩ := oI w3
                rcases h with ⟨j1, j2⟩ | ⟨j1, j2⟩
                · omega
                · obtain ⟨l3, l4⟩ := oI j2
                  exact bad l2 l4 (by rw [l3, l1]; exact f3)
              · omega
        · omega
      · obtain ⟨e1, e2⟩ := oI z2
        rcases h with ⟨u1, u2⟩ | ⟨u1, u2⟩
        · omega
        · obtain ⟨l3, l4⟩ := oI u2
          rcases h2 with ⟨w1, w2⟩ | ⟨w1, w2⟩
          · obtain ⟨l1, l2⟩ := oI w2
            exact bad l2 l4 (by rw [l3, l1, e1]; exact z4)
          · omega
    · rw [b4] at y1
      omega
  · rw [b3] at x1
    rcases m_newPers k1 rfl rfl rfl rfl with ⟨y1, y2⟩ | ⟨y1, g21, r22, k3, y2⟩
    · rw [b4] at y1
      omega
    · obtain ⟨e1, e2⟩ := oI y2
      obtain ⟨e3, e4⟩ := oI h
      obtain ⟨z1, z2, z3⟩ := fail_pr hT hf (by decide) k2 rfl rfl k3 rfl rfl
      rcases h2 with ⟨w1, w2⟩ | ⟨w1, w2⟩
      · obtain ⟨l1, l2⟩ := oI w2
        exact bad l2 (by rw [e4, z1]) (by rw [e3, l1, e1]; exact z3)
      · omega
end One
