/-! TRIALS lived from the first row to the last, on both sides -/
theorem c1k (k : Nat) : ((0 : Nat), 1 + (k : Int)) = (0, ((k + 1 : Nat) : Int)) := congrArg _ (Int.add_comm _ _)
theorem scl_rf {c : cg} {np nq N : Nat} : SCL c c np nq N := ⟨fun _ _ => rfl, fun _ _ => rfl, fun _ _ => ⟨fun _ _ _ => rfl, fun _ _ => rfl⟩, fun _ _ _ _ => rfl⟩
/-- no LOOP: what is being lived a row on -/
theorem LPR.on1 {c d : cg} {nn k : Nat} (h : LPR c d nn k) (h7 : c 9 k ≠ 7) : LPR c d nn (k + 1) := fun o e p q i1 i2 => h o e p q (by
  by_cases w : o = k
  · rw [w] at q; exact absurd q h7
  · omega) (by omega)
section Lvs
variable {sv : Nat → Int32} {L : Nat} {np nq nn st : Nat} {c' d' : cg}
theorem step_l {n n' k K b : Nat} {c d g1 q1 : cg} {r1 s1 v : Int} {lf2 : dlf} (hL : LRE c d np nq nn st k) (hlt : k < nn) (hst : st < 300) (hK : c 9 k = (K : Int)) (K7 : K ≤ 7) (k1 : zr sv L n 149 0 (darg 0 [(4, 107), (0, (k : Int))]) [] (cup c 107 7 (1 + (st : Int))) (g1, some (0, r1))) (k2 : zr sv L n' 249 0 (darg 0 [(4, 253), (0, 260 + 8 * (k : Int))]) [] (cup d 253 34 (1 + (st : Int))) (q1, some (0, s1))) (hb : b ≤ 16) (x0 : lf2 0 = (4, 253)) (x2 : lf2 2 = (0, (b : Int))) (x3 : lf2 3 = (0, (k : Int))) (x4 : lf2 4 = (0, 260 + 8 * (k : Int))) (h' : zr sv L n' 248 137 lf2 [] (cup q1 268 0 v) (d', none)) : ∃ (k2 n2 : Nat) (lfx lf3 : dlf) (d2 q3 : cg) (r3 : Int), r1 = (k2 : Int) ∧ 1 ≤ k2 ∧ LRE g1 d2 np nq nn (st + 1) k2 ∧ lfx 0 = (4, 253) ∧ lfx 2 = (0, (k2 : Int)) ∧ zr sv L n2 250 2 lfx [] d2 (q3, some (0, r3)) ∧ lf3 0 = (4, 253) ∧ lf3 2 = (0, (b : Int)) ∧ lf3 3 = (0, r3) ∧ zr sv L n' 248 39 lf3 [] q3 (d', none) ∧ LHc c g1 ∧ LHd d d2 := by
  obtain ⟨⟨hk, -⟩, ⟨N, hC, hG⟩, ⟨dr, dr1, dr2, dr3⟩, ⟨l1, l2, l3, l4⟩, ⟨m1, m2, m3⟩, hT, hN, hP, hx⟩ := id hL
  obtain ⟨⟨q5, q6, qN⟩, -⟩ := id hC
  have X : ∀ i j : Nat, ¬ (i = 107 ∧ j = 7) → cup c 107 7 (1 + (st : Int)) i j = c i j := fun i j hi => cup_ne hi
  have Y : ∀ i j : Nat, ¬ (i = 253 ∧ j = 34) → cup d 253 34 (1 + (st : Int)) i j = d i j := fun i j hi => cup_ne hi
  have X7 : cup c 107 7 (1 + (st : Int)) 107 7 = ((st + 1 : Nat) : Int) := by rw [cup_at]; omega
  have Y7 : cup d 253 34 (1 + (st : Int)) 253 34 = ((st + 1 : Nat) : Int) := by rw [cup_at]; omega
  generalize cup c 107 7 (1 + (st : Int)) = cx at k1 X X7
  generalize cup d 253 34 (1 + (st : Int)) = dx at k2 Y Y7
  have sx : SCL c cx np nq N := SCL.of q5 q6 qN (fun i j i1 i2 => X i j (by omega))
  have hCx : CT cx dx np nq N := hC.mv sx (fun j _ => Y 254 j (by omega))
  have hGx : GD cx np nq N := hG.mv q5 q6 sx
  have hDx : DRW cx dx := ⟨dr, dr1, by rw [X _ _ (by omega)]; exact dr2, by rw [Y _ _ (by omega)]; exact dr3⟩
  have hTx : TROW cx dx np nq k := (hT k hlt).mvz (fun i j i1 i2 => X i j (by omega)) (fun j _ => Y _ _ (by omega))
  have hKx : cx 9 k = (K : Int) := by rw [X _ _ (by omega)]; exact hK
  have nopen : K < 4 → ∀ i : Nat, PAI c nn i (k + 1) → c 9 i = 7 → i + 1 ≠ k + 1 := fun h4 i p q e => by
    have : i = k := by omega
    rw [this] at q
    omega
  -- where both are behind what the row does, with nothing else changed
  have nxq : ∀ {c2 d2 : cg} {k2 : Nat}, k2 ≤ nn → (∃ N : Nat, CT c2 d2 np nq N ∧ GD c2 np nq N) → LFc cx c2 → LFd dx d2 → DRW c2 d2 → LPR c d nn k2 → (∀ o : Nat, PAI c nn o k2 → c 9 o = 7 → o + 1 ≠ k2) → LRE c2 d2 np nq nn (st + 1) k2 := by
    intro c2 d2 k2 i1 i2 i3 i4 i5 i6 i7
    refine hL.nx hst i1 i2 i5 (fun i j j1 j2 => by rw [i3.1 i j (by omega) j2, X _ _ (by omega)]) ⟨by rw [i3.2.2.1.2, X _ _ (by omega)]; exact l1, by rw [i3.2.2.1.1]; exact X7⟩ (fun j => by rw [i3.2.2.2.1 j, X _ _ (by omega)]) (fun j hj => by rw [i4.2.1 j hj, Y _ _ (by omega)]) ⟨by rw [i4.2.2, Y _ _ (by omega)]; exact l2, by rw [i4.1 253 34 (by omega) (by omega) (by omega)]; exact Y7⟩ (fun j => by rw [i4.1 267 j (by omega) (by omega) (by omega), Y _ _ (by omega)]) i6 i7
  have hcx : LHc c cx := LHc.ofz (fun i j _ => X i j (by omega))
  have hdx : LHd dx (cup dx 268 0 v) := ⟨fun i j _ _ i3 _ => cup_ne (by omega), fun j _ => cup_ne (by omega)⟩
  have hdd : LHd d dx := ⟨fun i j _ _ _ i4 => Y i j (by omega), fun j _ => Y _ _ (by omega)⟩
  have vd : ∀ {q : cg}, LFd dx q → LFd dx (cup q 268 0 v) := fun h => ⟨fun i j i1 i2 i3 => by rw [cup_ne (by omega)]; exact h.1 i j i1 i2 i3, fun j hj => by rw [cup_ne (by omega)]; exact h.2.1 j hj, by rw [cup_ne (by omega)]; exact h.2.2⟩
  have rfd0 : LFd dx dx := ⟨fun _ _ _ _ _ => rfl, fun _ _ => rfl, rfl⟩
  have rfc : LFc cx cx := ⟨fun _ _ _ _ => rfl, fun _ _ => rfl, ⟨rfl, rfl⟩, fun _ => rfl, fun _ _ _ => rfl⟩
  obtain ⟨K', K10, t1, t2, -, -, -, -, -, t8, t9⟩ := id hTx
  have eK : K' = K := by omega
  rw [eK] at t2 t8 t9
  obtain ⟨f1, f2, f3, f4, f5⟩ := kdm_f K (by omega)
  by_cases K3 : K ≤ 3
  · obtain ⟨e1, ⟨N2, hC2, hG2⟩, fl, fm, dr', dr4, dr5, dr6⟩ := does_pr hCx hGx hDx (by omega) hTx hKx K3 k1 rfl rfl k2 rfl rfl
    have hCv : CT g1 (cup q1 268 0 v) np nq N2 := hC2.mv scl_rf (fun j _ => cup_ne (by omega))
    have hL2 : LRE g1 (cup q1 268 0 v) np nq nn (st + 1) (k + 1) := nxq (by omega) ⟨N2, hCv, hG2⟩ fl (vd fm) ⟨dr', dr4, dr5, by rw [cup_ne (by omega)]; exact dr6⟩ (hP.on1 (by omega)) (nopen (by omega))
    obtain ⟨q3, r3, k5, lf3, a0, a2, a3, h'⟩ := m_lvs137_p hb (by omega) (f5 K3) (by rw [cup_ne (by omega), fm.2.1 _ (by omega)]; exact t2) h' x0 x2 x3 x4
    obtain ⟨lfx, y0, y2, k5⟩ := m_bhe0 (k := k + 1) (by omega) k5 rfl (c1k k)
    exact ⟨k + 1, n', lfx, lf3, _, q3, r3, by omega, by omega, hL2, y0, y2, k5, a0, a2, a3, h', hcx.trz (LHc.lfz fl), hdd.trz (LHd.lfz (vd fm))⟩
  · by_cases K7' : K = 7
    · subst K7'
      obtain ⟨w, w1, w2, w3, w4⟩ := t8 rfl
      obtain ⟨e, hp⟩ := hN.2.1 k hlt ⟨by omega, by omega⟩
      obtain ⟨p1, p2, p3, p4, p5, p6, D, D2, p7, p8⟩ := id hp
      obtain ⟨g2, r2, k3, o⟩ := t_bst_7 (by omega) hKx k1 rfl rfl
      obtain ⟨u1, u2⟩ := oI o
      rw [← u1, ← u2] at k3
      have k3 := t_inl (q := e) (by omega) D2 (by omega) (by rw [X _ _ (by omega)]; exact p7) (by rw [X _ _ (by omega)]; exact p4) w3 k3 rfl rfl
      obtain ⟨v1, v2⟩ := oI (m_dos_20 (by omega) t2 k2 rfl rfl)
      rw [v1] at h'
      obtain ⟨q3, r3, k5, lf3, a0, a2, a3, h'⟩ := m_lvs137_l hb (by omega) (by omega) (by rw [cup_ne (by omega)]; exact t2) (by rw [cup_ne (by omega)]; exact w4) h' x0 x2 x3 x4
      obtain ⟨lfx, y0, y2, k5⟩ := m_bhe0 (k := k + 1) (by omega) k5 rfl (c1k k)
      -- at the row itself, with one more step
      have hCv : CT cx (cup dx 268 0 v) np nq N := hCx.mv scl_rf (fun j _ => cup_ne (by omega))
      have hL1 : LRE cx (cup dx 268 0 v) np nq nn (st + 1) k := nxq hk ⟨N, hCv, hGx⟩ rfc (vd rfd0) ⟨dr, dr1, by rw [X _ _ (by omega)]; exact dr2, by rw [cup_ne (by omega), Y _ _ (by omega)]; exact dr3⟩ hP hx
      have PX : ∀ {i j : Nat}, PAI cx nn i j → PAI c nn i j := fun q => q.mvz (fun i j i1 i2 => (X i j (by omega)).symm)
      have XP : ∀ {i j : Nat}, PAI c nn i j → PAI cx nn i j := fun q => q.mvz (fun i j i1 i2 => X i j (by omega))
      have hNx : NEST cx nn := hN.mvz (fun i j i1 i2 => X i j (by omega))
      have hG1 : g1 = cup cx 108 D (w : Int) := by
        rcases k3 with ⟨-, q⟩ | ⟨-, q⟩
        · exact (oI q).1
        · exact (oI q).1
      have C : ∀ i j : Nat, i ≠ 108 → g1 i j = cx i j := fun i j hi => by rw [hG1, cup_ne (by omega)]
      have lhc : LHc c g1 := hcx.trz (LHc.ofz (fun i j _ => C i j (by omega)))
      -- a LOOP around this one
      have arnd : ∀ {i j : Nat}, PAI c nn i j → c 9 i = 7 → i < k → k ≤ j → ∃ ro Di : Nat, ro ≤ 98 ∧ d 267 i = (ro : Int) ∧ Di ≤ 2 ∧ c 16 i = (Di : Int) ∧ c 108 Di = ((ro + 1 : Nat) : Int) ∧ Di ≠ D := fun {i j} q q7 i1 i2 => by
        obtain ⟨ro, Di, j1, j2, j3, j4, j5⟩ := hP i j q q7 i1 i2
        have hj : k ≠ j := fun z => by
          have := q.e9z
          rw [← z] at this
          omega
        have := (hN.2.2 i j k e q hp i1 (by omega)).2
        exact ⟨ro, Di, j1, j2, j3, j4, j5, by omega⟩
      by_cases em : e = k + 1
      · -- around nothing
        rcases k3 with ⟨z, -⟩ | ⟨-, o3⟩
        · exfalso; omega
        · obtain ⟨-, ur⟩ := oI o3
          have t21 : cup (cup dx 268 0 v) 267 k ((w : Int) - 1) 254 (260 + 8 * (k + 1)) = 21 := by
            rw [cup_ne (by omega), cup_ne (by omega), Y _ _ (by omega)]
            obtain ⟨Ke, Ke10, te1, te2, -⟩ := hT e p2
            obtain ⟨-, h2, -⟩ := kdm_f Ke Ke10
            have := hp.e9z
            rw [← em, te2, h2.mpr (by omega)]; rfl
          have t265 : cup (cup dx 268 0 v) 267 k ((w : Int) - 1) 254 (265 + 8 * (k + 1)) = (k : Int) := by
            rw [cup_ne (by omega), cup_ne (by omega), Y _ _ (by omega)]
            obtain ⟨Ke, Ke10, te1, -, -, -, -, -, -, -, te9⟩ := hT e p2
            have := hp.e9z
            rw [← em, te9 (by omega)]; exact p5
          obtain ⟨n2, lfy, d2, b0, b2, b3, b4⟩ := empt_l (nn := nn) (by omega) m3 (by omega) (w - 1) (by omega) (by rw [cup_ne (by omega), cup_ne (by omega), Y _ _ (by omega)]; exact m2) t21 t265 (by rw [cup_ne (by omega), cup_ne (by omega)]; exact t2) (by rw [cup_at]; omega) y0 y2 k5
          have B : ∀ i j : Nat, ¬ (i = 267 ∧ j = k) → d2 i j = cup dx 268 0 v i j := fun i j hi => by rw [b3 i j hi, cup_ne hi]
          have hL2 : LRE g1 d2 np nq nn (st + 1) (k + 2) := by
            refine hL1.lp (by omega) C (fun i j hi => B i j (by omega)) (fun i j q q7 i1 i2 => ?_) (fun i q q7 z => ?_)
            · have q := PX (q.mvz (fun x y x1 x2 => (C x y (by omega)).symm))
              rw [C _ _ (by omega), X _ _ (by omega)] at q7
              have n1 : i ≠ k := fun z => by
                rw [z] at q
                have := q.eun hp
                omega
              have n2 : i ≠ k + 1 := fun z => by
                have := hp.e9z
                rw [em, ← z] at this
                omega
              obtain ⟨ro, Di, j1, j2, j3, j4, j5, j6⟩ := arnd q q7 (by omega) (by omega)
              exact ⟨ro, Di, j1, by rw [B _ _ (by omega), cup_ne (by omega), Y _ _ (by omega)]; exact j2, j3, by rw [C _ _ (by omega), X _ _ (by omega)]; exact j4, by rw [hG1, cup_ne (by omega), X _ _ (by omega)]; exact j5⟩
            · have q := PX q
              have := hp.e9z
              have := q.o7
              have hi : i = k + 1 := by omega
              rw [hi, ← em] at this
              omega
          exact ⟨k + 2, n2, lfy, lf3, d2, q3, r3, by omega, by omega, hL2, b0, b2, b4, a0, a2, a3, h', lhc, hdd.trz ⟨fun i j i1 i2 i3 i4 => by rw [B i j (by omega), cup_ne (by omega)], fun j _ => by rw [B _ _ (by omega), cup_ne (by omega)]⟩⟩
      · rcases k3 with ⟨-, o3⟩ | ⟨z, -⟩
        · obtain ⟨-, ur⟩ := oI o3
          have hL2 : LRE g1 (cup (cup dx 268 0 v) 267 k ((w : Int) - 1)) np nq nn (st + 1) (k + 1) := by
            refine hL1.lp (by omega) C (fun i j hi => cup_ne (by omega)) (fun i j q q7 i1 i2 => ?_) (fun i q q7 z => ?_)
            · have q := PX (q.mvz (fun x y x1 x2 => (C x y (by omega)).symm))
              rw [C _ _ (by omega), X _ _ (by omega)] at q7
              by_cases z : i = k
              · subst z
                exact ⟨w - 1, D, by omega, by rw [cup_at]; omega, D2, by rw [C _ _ (by omega), X _ _ (by omega)]; exact p7, by rw [hG1, cup_at]; omega⟩
              · obtain ⟨ro, Di, j1, j2, j3, j4, j5, j6⟩ := arnd q q7 (by omega) (by omega)
                exact ⟨ro, Di, j1, by rw [cup_ne (by omega), cup_ne (by omega), Y _ _ (by omega)]; exact j2, j3, by rw [C _ _ (by omega), X _ _ (by omega)]; exact j4, by rw [hG1, cup_ne (by omega), X _ _ (by omega)]; exact j5⟩
            · have q := PX q
              have hi : i = k := by omega
              rw [hi] at q
              exact em (hp.eun q)
          exact ⟨k + 1, n', lfx, lf3, _, q3, r3, by omega, by omega, hL2, y0, y2, k5, a0, a2, a3, h', lhc, hdd.trz ⟨fun i j i1 i2 i3 i4 => by rw [cup_ne (by omega), cup_ne (by omega)], fun j _ => by rw [cup_ne (by omega), cup_ne (by omega)]⟩⟩
        · exfalso; omega
    · -- WHEN
      have K456 : K = 4 ∨ K = 5 ∨ K = 6 := by omega
      obtain ⟨e, hp⟩ := hN.2.1 k hlt ⟨by omega, by omega⟩
      obtain ⟨p1, p2, p3, p4, p5, p6, -⟩ := id hp
      have hCv : CT cx (cup dx 268 0 v) np nq N := hCx.mv scl_rf (fun j _ => cup_ne (by omega))
      have hTv : TROW cx (cup dx 268 0 v) np nq k := hTx.mvz (fun _ _ _ _ => rfl) (fun j _ => cup_ne (by omega))
      have hDv : DRW cx (cup dx 268 0 v) := ⟨dr, dr1, by rw [X _ _ (by omega)]; exact dr2, by rw [cup_ne (by omega), Y _ _ (by omega)]; exact dr3⟩
      have v1 : q1 = dx := by
        rcases K456 with z | z | z <;> subst z
        · exact (oI (m_dos_1923 (by omega) t2 k2 rfl rfl)).1
        · exact (oI (m_dos_1909 (by omega) t2 k2 rfl rfl)).1
        · exact (oI (m_dos_1924 (by omega) t2 k2 rfl rfl)).1
      rw [v1] at h'
      have clz : ∃ (r2 : Int), zr sv L n 150 0 (darg 0 [(4, 107), (0, (k : Int))]) [] cx (g1, some (0, r2)) ∧ ((r2 = 0 ∧ r1 = w32 (g1 15 k + 1)) ∨ (r2 ≠ 0 ∧ r1 = 1 + (k : Int))) := by
        rcases K456 with z | z | z <;> subst z
        · obtain ⟨g2, r2, k3, o⟩ := t_bst_4 (by omega) hKx k1 rfl rfl
          rcases o with ⟨z, o⟩ | ⟨z, o⟩ <;> obtain ⟨u1, u2⟩ := oI o
          · exact ⟨r2, by rw [u1]; exact k3, Or.inl ⟨z, by rw [u2, u1]⟩⟩
          · exact ⟨r2, by rw [u1]; exact k3, Or.inr ⟨z, u2⟩⟩
        · obtain ⟨g2, r2, k3, o⟩ := t_bst_5 (by omega) hKx k1 rfl rfl
          rcases o with ⟨z, o⟩ | ⟨z, o⟩ <;> obtain ⟨u1, u2⟩ := oI o
          · exact ⟨r2, by rw [u1]; exact k3, Or.inl ⟨z, by rw [u2, u1]⟩⟩
          · exact ⟨r2, by rw [u1]; exact k3, Or.inr ⟨z, u2⟩⟩
        · obtain ⟨g2, r2, k3, o⟩ := t_bst_6 (by omega) hKx k1 rfl rfl
          rcases o with ⟨z, o⟩ | ⟨z, o⟩ <;> obtain ⟨u1, u2⟩ := oI o
          · exact ⟨r2, by rw [u1]; exact k3, Or.inl ⟨z, by rw [u2, u1]⟩⟩
          · exact ⟨r2, by rw [u1]; exact k3, Or.inr ⟨z, u2⟩⟩
      have rfs : ∃ (q2 : cg) (r2 : Int), zr sv L n' 251 0 (darg 0 [(4, 253), (0, 260 + 8 * (k : Int))]) [] (cup dx 268 0 v) (q2, some (0, r2)) ∧ ((r2 ≠ 0 ∧ ∃ (q3 : cg) (r3 : Int) (lf3 : dlf), zr sv L n' 250 0 (darg 0 [(4, 253), (0, 1 + (k : Int))]) [] q2 (q3, some (0, r3)) ∧ lf3 0 = (4, 253) ∧ lf3 2 = (0, (b : Int)) ∧ lf3 3 = (0, r3) ∧ zr sv L n' 248 39 lf3 [] q3 (d', none)) ∨ (r2 = 0 ∧ ∃ (q3 : cg) (r3 : Int) (lf3 : dlf), zr sv L n' 250 0 (darg 0 [(4, 253), (0, w32 (q2 254 (265 + 8 * k) + 1))]) [] q2 (q3, some (0, r3)) ∧ lf3 0 = (4, 253) ∧ lf3 2 = (0, (b : Int)) ∧ lf3 3 = (0, r3) ∧ zr sv L n' 248 39 lf3 [] q3 (d', none))) := by
        rcases K456 with z | z | z <;> subst z
        · obtain ⟨q2, r2, k3, o⟩ := m_lvs137_1923 hb (by omega) (by rw [cup_ne (by omega)]; exact t2) h' x0 x2 x3 x4
          rcases o with ⟨z, q3, r3, k4, lf3, a0, a2, a3, o⟩ | ⟨z, q3, r3, k4, lf3, a0, a2, a3, o⟩
          · exact ⟨q2, r2, k3, Or.inl ⟨z, q3, r3, lf3, k4, a0, a2, a3, o⟩⟩
          · exact ⟨q2, r2, k3, Or.inr ⟨z, q3, r3, lf3, k4, a0, a2, a3, o⟩⟩
        · obtain ⟨q2, r2, k3, o⟩ := m_lvs137_1909 hb (by omega) (by rw [cup_ne (by omega)]; exact t2) h' x0 x2 x3 x4
          rcases o with ⟨z, q3, r3, k4, lf3, a0, a2, a3, o⟩ | ⟨z, q3, r3, k4, lf3, a0, a2, a3, o⟩
          · exact ⟨q2, r2, k3, Or.inl ⟨z, q3, r3, lf3, k4, a0, a2, a3, o⟩⟩
          · exact ⟨q2, r2, k3, Or.inr ⟨z, q3, r3, lf3, k4, a0, a2, a3, o⟩⟩
        · obtain ⟨q2, r2, k3, o⟩ := m_lvs137_1924 hb (by omega) (by rw [cup_ne (by omega)]; exact t2) h' x0 x2 x3 x4
          rcases o with ⟨z, q3, r3, k4, lf3, a0, a2, a3, o⟩ | ⟨z, q3, r3, k4, lf3, a0, a2, a3, o⟩
          · exact ⟨q2, r2, k3, Or.inl ⟨z, q3, r3, lf3, k4, a0, a2, a3, o⟩⟩
          · exact ⟨q2, r2, k3, Or.inr ⟨z, q3, r3, lf3, k4, a0, a2, a3, o⟩⟩
      obtain ⟨ra, ka, ca⟩ := clz
      obtain ⟨q2, rb, kb, cb⟩ := rfs
      obtain ⟨e1, e2, e3⟩ := hld_pr hCv hGx (by omega) hTv hKx K456 ka rfl rfl kb rfl rfl
      have hfin : ∀ {k2 : Nat}, k2 ≤ nn → LPR c d nn k2 → (∀ o : Nat, PAI c nn o k2 → c 9 o = 7 → o + 1 ≠ k2) → LRE g1 q2 np nq nn (st + 1) k2 := fun i1 i2 i3 => by
        rw [e1, e2]
        exact nxq i1 ⟨N, hCv, hGx⟩ rfc (vd rfd0) hDv i2 i3
      have lhc : LHc c g1 := by rw [e1]; exact hcx
      have lhd : LHd d q2 := by rw [e2]; exact hdd.trz hdx
      rcases ca with ⟨z, u⟩ | ⟨z, u⟩
      · rcases cb with ⟨z', -⟩ | ⟨-, q3, r3, lf3, k4, a0, a2, a3, o⟩
        · exact absurd (e3.mp z) z'
        · have w1 : w32 (g1 15 k + 1) = ((e + 1 : Nat) : Int) := by
            rw [e1, X _ _ (by omega), p4, w32_id (by omega) (by omega)]; rfl
          have w2 : w32 (q2 254 (265 + 8 * k) + 1) = ((e + 1 : Nat) : Int) := by
            rw [e2, cup_ne (by omega), t9 (by omega), X _ _ (by omega), p4, w32_id (by omega) (by omega)]; rfl
          rw [w2] at k4
          obtain ⟨lfx, y0, y2, k4⟩ := m_bhe0 (k := e + 1) (by omega) k4 rfl rfl
          refine ⟨e + 1, n', lfx, lf3, q2, q3, r3, by rw [u, w1], by omega, hfin (by omega) (fun i j q q7 i1 i2 => ?_) (fun i q q7 z => ?_), y0, y2, k4, a0, a2, a3, o, lhc, lhd⟩
          · have n1 : i ≠ k := fun z => by rw [z] at q7; omega
            have n2 : i ≠ e := fun z => by
              have := hp.e9z
              rw [← z] at this
              omega
            have n3 : i < k := by
              by_cases z : i < k
              · exact z
              · have := (hN.2.2 k e i j hp q (by omega) (by omega)).1
                omega
            exact hP i j q q7 n3 (by omega)
          · have := hp.e9z
            have hi : i = e := by omega
            rw [hi] at q7
            omega
      · rcases cb with ⟨-, q3, r3, lf3, k4, a0, a2, a3, o⟩ | ⟨z', -⟩
        · obtain ⟨lfx, y0, y2, k4⟩ := m_bhe0 (k := k + 1) (by omega) k4 rfl (c1k k)
          exact ⟨k + 1, n', lfx, lf3, q2, q3, r3, by omega, by omega, hfin (by omega) (hP.on1 (by omega)) (fun i q q7 z => by
            have hi : i = k := by omega
            rw [hi] at q7
            omega), y0, y2, k4, a0, a2, a3, o, lhc, lhd⟩
        · exact absurd (e3.mpr z') z
theorem lives_l : ∀ (N0 : Nat) {n n' : Nat} {lf lf' : dlf} {c d : cg} {k st u b : Nat}, n ≤ N0 → LRE c d np nq nn st k → (k < nn → c 9 k < 9) → u ≤ 61 * st + 61 → lf 0 = (4, 107) → lf 3 = (0, (k : Int)) → lf 4 = (0, (u : Int)) → zr sv L n 147 40 lf [] c (c', none) → b ≤ 16 → lf' 0 = (4, 253) → lf' 2 = (0, (b : Int)) → lf' 3 = (0, (k : Int)) → zr sv L n' 248 39 lf' [] d (d', none) → ∃ (n2 sta : Nat) (lf2 : dlf) (d2 : cg), lf2 0 = (4, 253) ∧ lf2 2 = (0, (b : Int)) ∧ zr sv L n2 248 213 lf2 [] d2 (d', none) ∧ (∃ N : Nat, CT c' d2 np nq N ∧ GD c' np nq N) ∧ c' 107 7 = (sta : Int) ∧ d2 253 34 = (sta : Int) ∧ LHc c c' ∧ LHd d d2
  | 0, n, n', lf, lf', c, d, k, st, u, b, hn, _, _, _, _, _, _, h, _, _, _, _, _ => by
    have : n = 0 := by omega
    subst this
    exact (zr_0 h).elim
  | N0 + 1, n, n', lf, lf', c, d, k, st, u, b, hn, hL, hne, hu, h0, h3, h4, h, hb, h0', h2', h3', h' => by
    cases n with
    | zero => exact (zr_0 h).elim
    | succ n => cases n' with
      | zero => exact (zr_0 h').elim
      | succ n' =>
        obtain ⟨⟨hk, hst⟩, ⟨N, hC, hG⟩, hD, ⟨l1, l2, l3, l4⟩, ⟨m1, m2, m3⟩, hT, hN, hP, hx⟩ := id hL
        obtain ⟨⟨q5, q6, qN⟩, -⟩ := id hC
        by_cases hlt : k < nn
        · have hE := hne hlt
          obtain ⟨K, K10, t1, t2, -⟩ := hT k hlt
          obtain ⟨f1, f2, f3, f4, f5⟩ := kdm_f K K10
          rcases t_go_s (by omega) (by omega) m3 K10 hst m1 l1 t1 l3 hlt h h0 h3 h4 with ⟨⟨z1, z2, z3⟩, g1, r1, k1, lf1, y0, y3, y4, h⟩ | ⟨⟨z1, z2, z3⟩, lf1, y0, y3, y4, h⟩ | ⟨⟨z1, z2⟩, -⟩ | ⟨z1, -⟩
          · rcases m_lvs39s hb (by omega) m3 f1 hst m2 t2 l2 l4 hlt h' h0' h2' h3' with ⟨⟨w1, w2⟩, q1, s1, k2, h'⟩ | ⟨⟨w1, w2⟩, lf2, x0, x2, h'⟩ | ⟨w1, -⟩
            · have K7 : K ≤ 7 := by
                have : K ≠ 8 := fun q => w2 (by rw [f4.mpr q]; rfl)
                omega
              obtain ⟨v, lf2, x0, x2, x3, x4, h'⟩ : ∃ (v : Int) (lf2 : dlf), lf2 0 = (4, 253) ∧ lf2 2 = (0, (b : Int)) ∧ lf2 3 = (0, (k : Int)) ∧ lf2 4 = (0, 260 + 8 * (k : Int)) ∧ zr sv L n' 248 137 lf2 [] (cup q1 268 0 v) (d', none) := by
                rcases h' with ⟨-, lf2, x0, x2, x3, x4, h'⟩ | ⟨-, lf2, x0, x2, x3, x4, h'⟩
                · exact ⟨_, lf2, x0, x2, x3, x4, h'⟩
                · exact ⟨_, lf2, x0, x2, x3, x4, h'⟩
              obtain ⟨k3, n2, lfx, lf3, d2, q3, r3, e1, e2, e3, e4, e5, e6, e7, e8, e9, ex, ey, ez⟩ := step_l hL hlt (by omega) t1 K7 k1 k2 hb x0 x2 x3 x4 h'
              obtain ⟨k4, n4, u4, lf4, c4, v1, v2, v3, v4, v5, v6, v7, v8, v9, va, vb⟩ := ends_l n2 (u := u + 1) e3 (by omega) (fun _ _ => by omega) y0 (by rw [y3, e1]) (by rw [y4]; exact congrArg _ (Int.add_comm _ _)) h e4 e5 e6
              obtain ⟨n5, stb, lf5, d5, a0, a2, a3, a4, a5, a6, a7, a8⟩ := lives_l N0 (by omega) v3 v4 v5 v6 v7 v8 v9 hb e7 e8 (by rw [e9, v2]) ex
              exact ⟨n5, stb, lf5, d5, a0, a2, a3, a4, a5, a6, ey.trz (va.trz a7), ez.trz (vb.trz a8)⟩
            · -- STOP
              have K8 : K = 8 := f4.mp (by omega)
              subst K8
              have X : ∀ i j : Nat, ¬ (i = 107 ∧ j = 7) → cup c 107 7 (1 + (st : Int)) i j = c i j := fun i j hi => cup_ne hi
              obtain ⟨u1, u2⟩ := oI (t_bst_8 (by omega) m3 (by rw [X _ _ (by omega)]; exact t1) (by rw [X _ _ (by omega)]; exact m1) k1 rfl rfl)
              cases n with
              | zero => exact (zr_0 h).elim
              | succ n =>
                have e := oV (t_go_e (k := nn) (u := u + 1) m3 (by omega) m3 (by rw [u1, X _ _ (by omega)]; exact m1) (Nat.le_refl _) h y0 (by rw [y3, u2]) (by rw [y4]; exact congrArg _ (Int.add_comm _ _)))
                have sx : SCL c c' np nq N := SCL.of q5 q6 qN (fun i j i1 i2 => by rw [e, u1, X i j (by omega)])
                exact ⟨n', st + 1, lf2, _, x0, x2, h', ⟨N, hC.mv sx (fun j _ => cup_ne (by omega)), hG.mv q5 q6 sx⟩, by rw [e, u1, cup_at]; omega, by rw [cup_at]; omega, LHc.ofz (fun i j _ => by rw [e, u1, X i j (by omega)]), fun i j _ _ _ i4 => cup_ne (by omega), fun j _ => cup_ne (by omega)⟩
            · exfalso; omega
          · -- no more than so many
            have hs : st = 300 := by omega
            rcases m_lvs39s hb (by omega) m3 f1 hst m2 t2 l2 l4 hlt h' h0' h2' h3' with ⟨⟨w1, w2⟩, -⟩ | ⟨⟨w1, w2⟩, -⟩ | ⟨w1, lf2, x0, x2, x3, h'⟩
            · exfalso; omega
            · exfalso; omega
            · cases n with
              | zero => exact (zr_0 h).elim
              | succ n => cases n' with
                | zero => exact (zr_0 h').elim
                | succ n' =>
                  have e := oV (t_go_l (k := k) (u := u + 1) (by omega) (by omega) m3 (by rw [cup_ne (by omega)]; exact m1) cup_at hlt h y0 y3 (by rw [y4]; exact congrArg _ (Int.add_comm _ _)))
                  obtain ⟨lf3, b0, b2, h'⟩ := m_lvs39l hb (by omega) m3 (by rw [cup_ne (by omega)]; exact m2) cup_at hlt h' x0 x2 x3
                  have sx : SCL c c' np nq N := SCL.of q5 q6 qN (fun i j i1 i2 => by rw [e, cup_ne (by omega)])
                  exact ⟨n', st, lf3, _, b0, b2, h', ⟨N, hC.mv sx (fun j _ => cup_ne (by omega)), hG.mv q5 q6 sx⟩, by rw [e, cup_ne (by omega)]; exact l3, by rw [cup_ne (by omega)]; exact l4, LHc.ofz (fun i j _ => by rw [e, cup_ne (by omega)]), fun i j _ _ i3 _ => cup_ne (by omega), fun j _ => cup_ne (by omega)⟩
          · exfalso; omega
          · exfalso; omega
        · have e := oV (t_go_e (k := k) (u := u) (by omega) (by omega) m3 m1 (by omega) h h0 h3 h4)
          obtain ⟨lf3, b0, b2, h'⟩ := m_lvs39e hb (by omega) m3 m2 (by omega) h' h0' h2' h3'
          exact ⟨n', st, lf3, d, b0, b2, h', ⟨N, by rw [e]; exact hC, by rw [e]; exact hG⟩, by rw [e]; exact l3, l4, by rw [e]; exact LHc.rf c, LHd.rf d⟩
end Lvs
