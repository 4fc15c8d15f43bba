/-! one cell of a court as it can be -/
theorem GD.ost {c : cg} {np nq N k : Nat} {v : Int} (h5 : np ≤ 5) (h6 : nq ≤ 6) (hN : N ≤ 16) (h : GD c np nq N) (hk : k < N) (hv : v = 1 ∨ v = 2) : GD (cup c (29 + k) 5 v) np nq N := by
  obtain ⟨⟨b1, b2, b3⟩, b4, b5, b6, b7⟩ := h
  have C : ∀ x y : Nat, ¬ (x = 29 + k ∧ y = 5) → cup c (29 + k) 5 v x y = c x y := fun x y q => cup_ne q
  have hr : cnt (rfd (cup c (29 + k) 5 v)) N = cnt (rfd c) N := cntr (fun i _ => C _ _ (by omega))
  have o : ∀ i : Nat, ohw (cup c (29 + k) 5 v) i = ohw c i ∧ ohp (cup c (29 + k) 5 v) i = ohp c i ∧ ohq (cup c (29 + k) 5 v) i = ohq c i ∧ oht (cup c (29 + k) 5 v) i = oht c i := fun i => by
    unfold ohw ohp ohq oht
    rw [C _ _ (by omega), C _ _ (by omega), C _ _ (by omega), C _ _ (by omega)]
    exact ⟨rfl, rfl, rfl, rfl⟩
  have st : ∀ i : Nat, ohs (cup c (29 + k) 5 v) i = 0 → ohs c i = 0 := fun i e => by
    unfold ohs at *
    by_cases q : i = k
    · rw [q, cup_at] at e; omega
    · rw [C _ _ (by omega)] at e; exact e
  refine ⟨⟨by rw [C _ _ (by omega)]; exact b1, by rw [C _ _ (by omega)]; exact b2, by rw [C _ _ (by omega)]; exact b3⟩, fun i hi => by rw [C _ _ (by omega)]; exact b4 i hi, fun i hi => ?_, fun i hi => ?_, fun i j hi hj => ?_⟩
  · obtain ⟨p1, p2, p3, p4, p5, p6⟩ := b5 i hi
    refine ⟨by rw [C _ _ (by omega)]; exact p1, by rw [C _ _ (by omega)]; exact p2, by rw [C _ _ (by omega)]; exact p3, by rw [C _ _ (by omega)]; exact p4, by rw [C _ _ (by omega), hr]; exact p5, fun t ht => ?_⟩
    unfold trh
    rw [C _ _ (by omega)]; exact p6 t ht
  · obtain ⟨p0, p1, p2, p3, p4, p5, p6, p7⟩ := b6 i hi
    obtain ⟨-, l0, l1, l2, l3⟩ := (b6 i hi).v h5 h6
    obtain ⟨o0, o1, o2, o3⟩ := o i
    refine ⟨by rw [C _ _ (by omega)]; exact p0, by rw [C _ _ (by omega)]; exact p1, by rw [C _ _ (by omega)]; exact p2, by rw [C _ _ (by omega)]; exact p3, by rw [C _ _ (by omega)]; exact p4, ?_, by rw [C _ _ (by omega)]; exact p6, fun x y => ?_⟩
    · by_cases q : i = k
      · rw [q, cup_at]; omega
      · rw [C _ _ (by omega)]; exact p5
    · rw [C _ _ (by omega)] at y
      rw [o1, o3, o2]
      unfold trh
      rw [C _ _ (by omega)]
      exact p7 (st i x) y
  · obtain ⟨o0, o1, o2, o3⟩ := o i
    obtain ⟨q0, q1, q2, q3⟩ := o j
    rw [o1, q1, o3, q3, o0, q0]
    exact fun x y => b7 i j hi hj (st i x) (st j y)
/-- a cell that no OATH hangs on -/
theorem GD.cel {c c' : cg} {np nq N : Nat} (h5 : np ≤ 5) (h6 : nq ≤ 6) (h : GD c np nq N) (ho : ∀ k j : Nat, 29 ≤ k → k < 45 → c' k j = c k j) (ht : ∀ i t : Nat, i < 6 → c' (18 + 2 * i) t = c (18 + 2 * i) t) (hs : (0 ≤ c' 3 5 ∧ c' 3 5 ≤ 99) ∧ (0 ≤ c' 3 6 ∧ c' 3 6 ≤ 99) ∧ (0 ≤ c' 3 7 ∧ c' 3 7 ≤ 60)) (hm : ∀ i : Nat, i < np → c' 4 i = c 4 i) (hN : N ≤ 16) (hp : ∀ i : Nat, i < nq → (c' (17 + 2 * i) 2 = c (17 + 2 * i) 2 ∧ c' (17 + 2 * i) 3 = c (17 + 2 * i) 3 ∧ c' (17 + 2 * i) 4 = c (17 + 2 * i) 4) ∧ (∃ m : Nat, m < 64 ∧ c' (17 + 2 * i) 5 = (m : Int)) ∧ 0 ≤ c' (17 + 2 * i) 1 ∧ (c' (17 + 2 * i) 1 ≤ 9999 ∨ c' (17 + 2 * i) 1 = c (17 + 2 * i) 1)) : GD c' np nq N := by
  obtain ⟨⟨b1, b2, b3⟩, b4, b5, b6, b7⟩ := h
  have hr : cnt (rfd c') N = cnt (rfd c) N := cntr (fun i hi => ho _ _ (by omega) (by omega))
  have o : ∀ i : Nat, i < N → ohw c' i = ohw c i ∧ ohp c' i = ohp c i ∧ ohq c' i = ohq c i ∧ oht c' i = oht c i ∧ ohs c' i = ohs c i := fun i hi => by
    unfold ohw ohp ohq oht ohs
    rw [ho _ _ (by omega) (by omega), ho _ _ (by omega) (by omega), ho _ _ (by omega) (by omega), ho _ _ (by omega) (by omega), ho _ _ (by omega) (by omega)]
    exact ⟨rfl, rfl, rfl, rfl, rfl⟩
  refine ⟨hs, fun i hi => by rw [hm i hi]; exact b4 i hi, fun i hi => ?_, fun i hi => ?_, fun i j hi hj => ?_⟩
  · obtain ⟨p1, p2, p3, p4, p5, p6⟩ := b5 i hi
    obtain ⟨⟨q1, q2, q3⟩, q4, q5, q6⟩ := hp i hi
    refine ⟨by rw [q1]; exact p1, by rw [q2]; exact p2, by rw [q3]; exact p3, q4, ⟨q5, by rw [hr]; omega⟩, fun t ht' => ?_⟩
    unfold trh
    rw [ht i t (by omega)]; exact p6 t ht'
  · obtain ⟨p0, p1, p2, p3, p4, p5, p6, p7⟩ := b6 i hi
    obtain ⟨-, l0, l1, l2, l3⟩ := (b6 i hi).v h5 h6
    obtain ⟨o0, o1, o2, o3, o5⟩ := o i hi
    have q : ∀ j : Nat, c' (29 + i) j = c (29 + i) j := fun j => ho _ _ (by omega) (by omega)
    refine ⟨by rw [q]; exact p0, by rw [q]; exact p1, by rw [q]; exact p2, by rw [q]; exact p3, by rw [q]; exact p4, by rw [q]; exact p5, by rw [q]; exact p6, ?_⟩
    rw [o5, o1, o3, o2, q]
    unfold trh
    rw [ht _ _ (by omega)]
    exact p7
  · obtain ⟨o0, o1, o2, o3, o5⟩ := o i (by omega)
    obtain ⟨q0, q1, q2, q3, q5⟩ := o j hj
    rw [o5, q5, o1, q1, o3, q3, o0, q0]
    exact b7 i j hi hj
section Ops2
variable {sv : Nat → Int32} {L : Nat} {n n' : Nat} {lf lf' : dlf} {c d c' d' : cg} {np nq N : Nat} {a b r r' : Int}
theorem recant_op (hC : CT c d np nq N) (hG : GD c np nq N) (h : zr sv L n 307 0 lf [] c (c', some (0, r))) (h0 : lf 0 = (4, 0)) (h1 : lf 1 = (0, a)) (h' : zr sv L n' 308 0 lf' [] d (d', some (0, r'))) (h0' : lf' 0 = (4, 253)) (h1' : lf' 1 = (0, a)) : r = r' ∧ OPR c' d' np nq c d := by
  obtain ⟨⟨h5, h6, hN⟩, ⟨c0, c3, c9⟩, ⟨d0, d1, d2⟩, -⟩ := id hC
  have hV := hG.hv h5 h6
  have hR := hC.hr hG
  rcases t_rec0 h h0 h1 with ⟨z, o⟩ | ⟨z, lf2, y0, y1, h⟩
  · rcases m_rec0 h' h0' h1' with ⟨z', o'⟩ | ⟨z', -⟩
    · obtain ⟨u1, u2⟩ := oI o
      obtain ⟨v1, v2⟩ := oI o'
      exact ⟨by omega, opr_st hC hG u1 v1⟩
    · exfalso; omega
  · rcases m_rec0 h' h0' h1' with ⟨z', -⟩ | ⟨z', lf3, x0, x1, h'⟩
    · exfalso; omega
    · obtain ⟨k, rfl⟩ : ∃ k : Nat, a = (k : Int) := ⟨a.toNat, by omega⟩
      have hk : k < N := by omega
      obtain ⟨v1, v2, v3, v4, v5⟩ := hV k hk
      rcases t_rec17 v2 v3 v4 v5 (by omega) v1 h y0 y1 with ⟨w, g1, r1, k1, o⟩ | ⟨w, o⟩
      · rcases m_rec14 v2 v3 v4 v5 (by omega) (hR k hk) h' x0 x1 with ⟨w', -⟩ | ⟨w', g2, r2, k2, o'⟩
        · exact absurd w w'
        · have hC1 := hC.oset (k := k) (j := 5) (by omega) (by decide) 2
          rw [show 99 + 8 * k + 5 = 104 + 8 * k by omega] at hC1
          have hG1 := hG.ost h5 h6 hN hk (v := 2) (Or.inr rfl)
          obtain ⟨s1, s2⟩ := oI (inst_ok (hG1.hv h5 h6) hN (by rw [cup_ne (by omega)]; exact c9) k1 rfl rfl)
          obtain ⟨s3, s4⟩ := oI (stdg_ok (hG1.hv h5 h6) (hC1.hr hG1) hN (by rw [cup_ne (by omega)]; exact d2) k2 rfl)
          obtain ⟨u1, u2⟩ := oI o
          obtain ⟨t1, t2⟩ := oI o'
          refine ⟨by rw [u2, t2, s2, s4], ?_⟩
          rw [u1, t1, s1, s3]
          exact OPR.st ⟨N, hC1, hG1, ⟨fun x y _ i2 i3 => by rw [cup_ne (by omega)], fun i hi => by rw [cup_ne (by omega)]⟩, fun x y i1 _ => by rw [cup_ne (by omega)], fun y hy => by rw [cup_ne (by omega)]⟩ _ _
      · rcases m_rec14 v2 v3 v4 v5 (by omega) (hR k hk) h' x0 x1 with ⟨w', o'⟩ | ⟨w', -⟩
        · obtain ⟨u1, u2⟩ := oI o
          obtain ⟨t1, t2⟩ := oI o'
          exact ⟨by omega, opr_st hC hG u1 t1⟩
        · exact absurd w' w
theorem csgnl {z : Int} : csgn z < 0 ↔ z < 0 := by
  unfold csgn
  split
  · omega
  · split <;> omega
theorem csgng {z : Int} : 0 < csgn z ↔ 0 < z := by
  unfold csgn
  split
  · omega
  · split <;> omega
theorem earn_op (hC : CT c d np nq N) (hG : GD c np nq N) (h : zr sv L n 309 0 lf [] c (c', some (0, r))) (h0 : lf 0 = (4, 0)) (h1 : lf 1 = (0, a)) (h2 : lf 2 = (0, b)) (h' : zr sv L n' 310 0 lf' [] d (d', some (0, r'))) (h0' : lf' 0 = (4, 253)) (h1' : lf' 1 = (0, a)) (h2' : lf' 2 = (0, b)) : r = r' ∧ OPR c' d' np nq c d := by
  obtain ⟨⟨h5, h6, hN⟩, ⟨c0, c3, c9⟩, ⟨d0, d1, d2⟩, -, -, hS, -⟩ := id hC
  have l1 := csgnl (z := b - 1)
  have g9 := csgng (z := b - 999)
  rcases t_ern0 h h0 h1 h2 with ⟨z, o⟩ | ⟨z, lf2, y0, y1, y2, h⟩
  · rcases m_ern0 h' h0' h1' h2' with ⟨z', o'⟩ | ⟨z', -⟩
    · obtain ⟨u1, u2⟩ := oI o
      obtain ⟨v1, v2⟩ := oI o'
      exact ⟨by omega, opr_st hC hG u1 v1⟩
    · exfalso; omega
  · rcases m_ern0 h' h0' h1' h2' with ⟨z', -⟩ | ⟨z', lf3, x0, x1, x2, h'⟩
    · exfalso; omega
    · obtain ⟨W, rfl⟩ : ∃ W : Nat, a = (W : Int) := ⟨a.toNat, by omega⟩
      have hW : W < nq := by omega
      have bd := (hG.2.2.1 W hW).2.2.2.2.1
      have cl := cnt_le (f := rfd c) N
      have e1 : w32 (c (17 + 2 * W) 1 + b) = c (17 + 2 * W) 1 + b := w32_id (by omega) (by omega)
      have hc := t_ern28 (W := W) (by omega) rfl h y0 y1 y2
      have hm := m_ern26 (W := W) (by omega) (hS W hW).1.1 h' x0 x1 x2
      rw [e1] at hc hm
      rcases hc with ⟨w, o⟩ | ⟨w, o⟩
      · rcases hm with ⟨w', o'⟩ | ⟨w', -⟩
        · obtain ⟨u1, u2⟩ := oI o
          obtain ⟨v1, v2⟩ := oI o'
          refine ⟨by omega, ?_⟩
          rw [u1, v1]
          have hC1 := hC.pset (i := W) (j := 1) (by omega) (by decide) (c (17 + 2 * W) 1 + b)
          rw [show 14 + 6 * W + 1 = 15 + 6 * W by omega] at hC1
          refine OPR.st ⟨N, hC1, hG.cel h5 h6 (fun k j k1 k2 => by rw [cup_ne (by omega)]) (fun i t hi => by rw [cup_ne (by omega)]) (by rw [cup_ne (by omega), cup_ne (by omega), cup_ne (by omega)]; exact hG.1) (fun i hi => by rw [cup_ne (by omega)]) hN (fun i hi => ⟨⟨by rw [cup_ne (by omega)], by rw [cup_ne (by omega)], by rw [cup_ne (by omega)]⟩, by rw [cup_ne (by omega)]; exact (hG.2.2.1 i hi).2.2.2.1, ?_⟩), ⟨fun x y _ i2 i3 => by rw [cup_ne (by omega)], fun i hi => by rw [cup_ne (by omega)]⟩, fun x y i1 _ => by rw [cup_ne (by omega)], fun y hy => by rw [cup_ne (by omega)]⟩ _ _
          by_cases q : i = W
          · rw [q, cup_at]; exact ⟨by omega, Or.inl w⟩
          · rw [cup_ne (by omega)]; exact ⟨(hG.2.2.1 i hi).2.2.2.2.1.1, Or.inr rfl⟩
        · exfalso; omega
      · rcases hm with ⟨w', -⟩ | ⟨w', o'⟩
        · exfalso; omega
        · obtain ⟨u1, u2⟩ := oI o
          obtain ⟨v1, v2⟩ := oI o'
          exact ⟨by omega, opr_st hC hG u1 v1⟩
theorem meet_op (hC : CT c d np nq N) (hG : GD c np nq N) (h : zr sv L n 311 0 lf [] c (c', some (0, r))) (h0 : lf 0 = (4, 0)) (h1 : lf 1 = (0, a)) (h2 : lf 2 = (0, b)) (h' : zr sv L n' 312 0 lf' [] d (d', some (0, r'))) (h0' : lf' 0 = (4, 253)) (h1' : lf' 1 = (0, a)) (h2' : lf' 2 = (0, b)) : r = r' ∧ OPR c' d' np nq c d := by
  obtain ⟨⟨h5, h6, hN⟩, ⟨c0, c3, c9⟩, ⟨d0, d1, d2⟩, -, -, hS, -⟩ := id hC
  rcases t_mt0 h h0 h1 h2 with ⟨z, o⟩ | ⟨z, lf2, y0, y1, y2, h⟩
  · rcases m_mt0 h' h0' h1' h2' with ⟨z', o'⟩ | ⟨z', -⟩
    · obtain ⟨u1, u2⟩ := oI o
      obtain ⟨v1, v2⟩ := oI o'
      exact ⟨by omega, opr_st hC hG u1 v1⟩
    · exfalso; omega
  · rcases m_mt0 h' h0' h1' h2' with ⟨z', -⟩ | ⟨z', lf3, x0, x1, x2, h'⟩
    · exfalso; omega
    · obtain ⟨A, rfl⟩ : ∃ A : Nat, a = (A : Int) := ⟨a.toNat, by omega⟩
      obtain ⟨B, rfl⟩ : ∃ B : Nat, b = (B : Int) := ⟨b.toNat, by omega⟩
      have hA : A < nq := by omega
      have hB : B < nq := by omega
      have nAB : A ≠ B := by omega
      obtain ⟨ma, ma1, ma2⟩ := (hG.2.2.1 A hA).2.2.2.1
      obtain ⟨mb, mb1, mb2⟩ := (hG.2.2.1 B hB).2.2.2.1
      have hc := t_mt15 (W := A) (P := B) (by omega) (by omega) ma2 h y0 y1 y2
      have hm := m_mt15 (W := A) (P := B) (by omega) (by omega) ((hS A hA).1.2.2.2.2.trans ma2) h' x0 x1 x2
      have i6 := isb6 ma ma1 B (by omega)
      rw [cup_ne (by omega), mb2, (bor6 ma ma1 B (by omega)).1, (bor6 mb mb1 A (by omega)).1] at hc
      rw [cup_ne (by omega), (hS B hB).1.2.2.2.2, mb2, (bor6 ma ma1 B (by omega)).1, (bor6 mb mb1 A (by omega)).1] at hm
      rcases hc with ⟨w, o⟩ | ⟨w, o⟩
      · rcases hm with ⟨w', o'⟩ | ⟨w', -⟩
        · obtain ⟨u1, u2⟩ := oI o
          obtain ⟨v1, v2⟩ := oI o'
          refine ⟨by omega, ?_⟩
          rw [u1, v1]
          have hC1 := (hC.pset (i := A) (j := 5) (by omega) (by decide) ((ma ||| 2 ^ B : Nat) : Int)).pset (i := B) (j := 5) (by omega) (by decide) ((mb ||| 2 ^ A : Nat) : Int)
          rw [show 14 + 6 * A + 5 = 19 + 6 * A by omega, show 14 + 6 * B + 5 = 19 + 6 * B by omega] at hC1
          refine OPR.st ⟨N, hC1, hG.cel h5 h6 (fun k j k1 k2 => by rw [cup_ne (by omega), cup_ne (by omega)]) (fun i t hi => by rw [cup_ne (by omega), cup_ne (by omega)]) (by rw [cup_ne (by omega), cup_ne (by omega), cup_ne (by omega), cup_ne (by omega), cup_ne (by omega), cup_ne (by omega)]; exact hG.1) (fun i hi => by rw [cup_ne (by omega), cup_ne (by omega)]) hN (fun i hi => ⟨⟨by rw [cup_ne (by omega), cup_ne (by omega)], by rw [cup_ne (by omega), cup_ne (by omega)], by rw [cup_ne (by omega), cup_ne (by omega)]⟩, ?_, ?_⟩), ⟨fun x y _ i2 i3 => by rw [cup_ne (by omega), cup_ne (by omega)], fun i hi => by rw [cup_ne (by omega), cup_ne (by omega)]⟩, fun x y i1 _ => by rw [cup_ne (by omega), cup_ne (by omega)], fun y hy => by rw [cup_ne (by omega), cup_ne (by omega)]⟩ _ _
          · by_cases q : i = B
            · rw [q, cup_at]; exact ⟨_, (bor6 mb mb1 A (by omega)).2, rfl⟩
            · rw [cup_ne (by omega)]
              by_cases q' : i = A
              · rw [q', cup_at]; exact ⟨_, (bor6 ma ma1 B (by omega)).2, rfl⟩
              · rw [cup_ne (by omega)]; exact (hG.2.2.1 i hi).2.2.2.1
          · rw [cup_ne (by omega), cup_ne (by omega)]; exact ⟨(hG.2.2.1 i hi).2.2.2.2.1.1, Or.inr rfl⟩
        · exfalso; omega
      · rcases hm with ⟨w', -⟩ | ⟨w', o'⟩
        · exfalso
          cases hq : ma.testBit B with
          | true => exact w' (i6.1.mpr hq)
          | false => exact w (i6.2.mpr hq)
        · obtain ⟨u1, u2⟩ := oI o
          obtain ⟨v1, v2⟩ := oI o'
          exact ⟨by omega, opr_st hC hG u1 v1⟩
theorem ride_op (hC : CT c d np nq N) (hG : GD c np nq N) (h : zr sv L n 313 0 lf [] c (c', some (0, r))) (h0 : lf 0 = (4, 0)) (h1 : lf 1 = (0, a)) (h' : zr sv L n' 314 0 lf' [] d (d', some (0, r'))) (h0' : lf' 0 = (4, 253)) (h1' : lf' 1 = (0, a)) : r = r' ∧ OPR c' d' np nq c d := by
  obtain ⟨⟨h5, h6, hN⟩, -⟩ := id hC
  have l0 := csgnl (z := a - 0)
  have g6 := csgng (z := a - 60)
  rcases t_ride h h0 h1 with ⟨z, o⟩ | ⟨z, o⟩
  · rcases m_ride h' h0' h1' with ⟨z', o'⟩ | ⟨z', o'⟩
    · obtain ⟨u1, u2⟩ := oI o
      obtain ⟨v1, v2⟩ := oI o'
      exact ⟨by omega, opr_st hC hG u1 v1⟩
    · exfalso; omega
  · rcases m_ride h' h0' h1' with ⟨z', o'⟩ | ⟨z', o'⟩
    · exfalso; omega
    · obtain ⟨u1, u2⟩ := oI o
      obtain ⟨v1, v2⟩ := oI o'
      refine ⟨by omega, ?_⟩
      rw [u1, v1]
      have hC1 := hC.sset (j := 5) (by decide) a
      exact OPR.st ⟨N, hC1, hG.cel h5 h6 (fun k j k1 k2 => by rw [cup_ne (by omega)]) (fun i t hi => by rw [cup_ne (by omega)]) ⟨by rw [cup_ne (by omega)]; exact hG.1.1, by rw [cup_ne (by omega)]; exact hG.1.2.1, by rw [cup_at]; exact ⟨by omega, by omega⟩⟩ (fun i hi => by rw [cup_ne (by omega)]) hN (fun i hi => ⟨⟨by rw [cup_ne (by omega)], by rw [cup_ne (by omega)], by rw [cup_ne (by omega)]⟩, by rw [cup_ne (by omega)]; exact (hG.2.2.1 i hi).2.2.2.1, by rw [cup_ne (by omega)]; exact ⟨(hG.2.2.1 i hi).2.2.2.2.1.1, Or.inr rfl⟩⟩), ⟨fun x y _ i2 i3 => by rw [cup_ne (by omega)], fun i hi => by rw [cup_ne (by omega)]⟩, fun x y i1 _ => by rw [cup_ne (by omega)], fun y hy => by rw [cup_ne (by omega)]⟩ _ _
end Ops2
