/-! FIND, on both sides -/
def FRCc (c c' : cg) : Prop := (∀ k j : Nat, ¬ (k = 3 ∧ 8 ≤ j ∧ j ≤ 9) → (k < 17 ∨ 45 ≤ k) → c' k j = c k j) ∧ ∀ i : Nat, i < 6 → c' (17 + 2 * i) 0 = c (17 + 2 * i) 0
def FRCm (d d' : cg) : Prop := (∀ k j : Nat, k ≠ 254 → d' k j = d k j) ∧ ∀ j : Nat, (j = 7 ∨ 260 ≤ j) → d' 254 j = d 254 j
def FIx (c g : cg) (nq N P Q T k : Nat) : Prop := FRCc c g ∧ (∀ i : Nat, i < 6 → ∀ j : Nat, 2 ≤ j → g (17 + 2 * i) j = c (17 + 2 * i) j) ∧ (∀ i : Nat, i < 6 → ∀ t : Nat, g (18 + 2 * i) t = c (18 + 2 * i) t) ∧ (∀ i : Nat, i < 16 → ∀ j : Nat, j ≠ 5 → j ≠ 6 → g (29 + i) j = c (29 + i) j) ∧ (∀ i : Nat, k ≤ i → i < 16 → g (29 + i) 5 = c (29 + i) 5 ∧ g (29 + i) 6 = c (29 + i) 6) ∧ (∀ i : Nat, i < k → i < N → (isof c P T i = false → g (29 + i) 5 = c (29 + i) 5 ∧ g (29 + i) 6 = c (29 + i) 6) ∧ (isof c P T i = true → (ohq c i = Q → g (29 + i) 5 = 0 ∧ (g (29 + i) 6 = 0 ∨ g (29 + i) 6 = 1)) ∧ (ohq c i ≠ Q → g (29 + i) 5 = 1 ∧ g (29 + i) 6 = c (29 + i) 6))) ∧ ∀ p : Nat, p < nq → 0 ≤ g (17 + 2 * p) 1 ∧ g (17 + 2 * p) 1 ≤ 9999 + 2000 * (cnt (rfd g) N : Int)
theorem cntr {g g' : cg} {N : Nat} (h : ∀ i : Nat, i < N → g' (29 + i) 6 = g (29 + i) 6) : cnt (rfd g') N = cnt (rfd g) N := cnt_congr N (fun i hi => by unfold rfd; rw [h i hi])
section Fnd
variable {sv : Nat → Int32} {L : Nat} {n n' : Nat} {lf lf' : dlf} {c d c' d' g g' : cg} {np nq N P Q T : Nat} {r r' : Int}
theorem fi_gd (hP : P < nq) (hQ : Q < np) (hT : T < 8) (h5 : np ≤ 5) (h6 : nq ≤ 6) (hN : N ≤ 16) (hG : GD c np nq N) (h : FIx c g nq N P Q T N) : GD (cup g (18 + 2 * P) T (Q : Int)) np nq N := by
  obtain ⟨⟨a1, a2⟩, a3, a4, a5, a6, a7, a8⟩ := h
  obtain ⟨⟨b1, b2, b3⟩, b4, b5, b6, b7⟩ := hG
  have C : ∀ x y : Nat, ¬ (x = 18 + 2 * P ∧ y = T) → cup g (18 + 2 * P) T (Q : Int) x y = g x y := fun x y q => cup_ne q
  have o : ∀ i : Nat, i < N → ohw (cup g (18 + 2 * P) T (Q : Int)) i = ohw c i ∧ ohp (cup g (18 + 2 * P) T (Q : Int)) i = ohp c i ∧ ohq (cup g (18 + 2 * P) T (Q : Int)) i = ohq c i ∧ oht (cup g (18 + 2 * P) T (Q : Int)) i = oht c i ∧ ohs (cup g (18 + 2 * P) T (Q : Int)) i = g (29 + i) 5 := fun i hi => by
    unfold ohw ohp ohq oht ohs
    rw [C _ _ (by omega), C _ _ (by omega), C _ _ (by omega), C _ _ (by omega), C _ _ (by omega), a5 i (by omega) 0 (by decide) (by decide), a5 i (by omega) 1 (by decide) (by decide), a5 i (by omega) 2 (by decide) (by decide), a5 i (by omega) 3 (by decide) (by decide)]
    exact ⟨rfl, rfl, rfl, rfl, rfl⟩
  have st : ∀ i : Nat, i < N → g (29 + i) 5 = 0 → ohs c i = 0 := fun i hi e => by
    obtain ⟨x1, x2⟩ := a7 i hi hi
    cases hb : isof c P T i with
    | true => exact (isof_i.mp hb).1
    | false => rw [(x1 hb).1] at e; exact e
  have hr : cnt (rfd (cup g (18 + 2 * P) T (Q : Int))) N = cnt (rfd g) N := cntr (fun i hi => C _ _ (by omega))
  refine ⟨⟨by rw [C _ _ (by omega), a1 _ _ (by omega) (by omega)]; exact b1, by rw [C _ _ (by omega), a1 _ _ (by omega) (by omega)]; exact b2, by rw [C _ _ (by omega), a1 _ _ (by omega) (by omega)]; exact b3⟩, fun i hi => by rw [C _ _ (by omega), a1 _ _ (by omega) (by omega)]; exact b4 i hi, fun i hi => ?_, fun k hk => ?_, fun i k hi hk => ?_⟩
  · obtain ⟨p1, p2, p3, p4, -, p6⟩ := b5 i hi
    refine ⟨by rw [C _ _ (by omega), a3 i (by omega) 2 (by decide)]; exact p1, by rw [C _ _ (by omega), a3 i (by omega) 3 (by decide)]; exact p2, by rw [C _ _ (by omega), a3 i (by omega) 4 (by decide)]; exact p3, by rw [C _ _ (by omega), a3 i (by omega) 5 (by decide)]; exact p4, by rw [C _ _ (by omega), hr]; exact a8 i hi, fun t ht => ?_⟩
    unfold trh
    by_cases e : i = P ∧ t = T
    · rw [e.1, e.2, cup_at]; omega
    · rw [C _ _ (by omega), a4 i (by omega) t]; exact p6 t ht
  · obtain ⟨p0, p1, p2, p3, p4, p5, p6, p7⟩ := b6 k hk
    obtain ⟨x1, x2⟩ := a7 k hk hk
    obtain ⟨o0, o1, o2, o3, o5⟩ := o k hk
    refine ⟨by rw [C _ _ (by omega), a5 k (by omega) 0 (by decide) (by decide)]; exact p0, by rw [C _ _ (by omega), a5 k (by omega) 1 (by decide) (by decide)]; exact p1, by rw [C _ _ (by omega), a5 k (by omega) 2 (by decide) (by decide)]; exact p2, by rw [C _ _ (by omega), a5 k (by omega) 3 (by decide) (by decide)]; exact p3, by rw [C _ _ (by omega), a5 k (by omega) 4 (by decide) (by decide)]; exact p4, ?_, ?_, ?_⟩
    · rw [C _ _ (by omega)]
      cases hb : isof c P T k with
      | true =>
        by_cases e : ohq c k = Q
        · exact Or.inl ((x2 hb).1 e).1
        · exact Or.inr (Or.inl ((x2 hb).2 e).1)
      | false => rw [(x1 hb).1]; exact p5
    · rw [C _ _ (by omega)]
      cases hb : isof c P T k with
      | true =>
        by_cases e : ohq c k = Q
        · exact ((x2 hb).1 e).2
        · rw [((x2 hb).2 e).2]; exact p6
      | false => rw [(x1 hb).2]; exact p6
    · rw [o5, o1, o3, o2, C _ _ (by omega)]
      intro e1 e2
      unfold trh
      cases hb : isof c P T k with
      | true =>
        have y := isof_i.mp hb
        by_cases e : ohq c k = Q
        · rw [y.2.1, y.2.2, cup_at, e]
        · have := ((x2 hb).2 e).1
          omega
      | false =>
        have y := x1 hb
        rw [y.1] at e1
        rw [y.2] at e2
        have ne : ¬ (ohp c k = P ∧ oht c k = T) := fun q => by
          have := isof_i.mpr ⟨e1, q.1, q.2⟩
          rw [hb] at this
          cases this
        obtain ⟨-, -, l1, -, l3⟩ := (b6 k hk).v h5 h6
        rw [C _ _ (by omega), a4 _ (by omega) _]
        exact p7 e1 e2
  · obtain ⟨i0, i1, i2, i3, i5⟩ := o i (by omega)
    obtain ⟨k0, k1, k2, k3, k5⟩ := o k hk
    rw [i5, k5, i1, k1, i3, k3, i0, k0]
    intro e1 e2
    exact b7 i k hi hk (st i (by omega) e1) (st k hk e2)
theorem find_pr (hP : P < nq) (hQ : Q < np) (hT : T < 8) (hC : CT c d np nq N) (hG : GD c np nq N) (h : zr sv L n 104 0 lf [] c (c', some (0, r))) (h0 : lf 0 = (4, 3)) (h1 : lf 1 = (0, (P : Int))) (h2 : lf 2 = (0, (Q : Int))) (h3 : lf 3 = (0, (T : Int))) (h' : zr sv L n' 234 0 lf' [] d (d', some (0, r'))) (h0' : lf' 0 = (4, 253)) (h1' : lf' 1 = (0, (P : Int))) (h2' : lf' 2 = (0, (Q : Int))) (h3' : lf' 3 = (0, (T : Int))) : r = r' ∧ 0 ≤ r ∧ CT c' d' np nq N ∧ GD c' np nq N ∧ FRCc c c' ∧ FRCm d d' := by
  obtain ⟨⟨q5, q6, qN⟩, -⟩ := id hC
  have hV := hG.hv q5 q6
  obtain ⟨lfm, m0, m1, m2, m3, m4, m5, h'⟩ := m_fnd0 (by omega) (by omega) (by omega) h' h0' h1' h2' h3'
  obtain ⟨u, lfc, hu, c0, c1, c2, c3, c4, c5, c6, h⟩ : ∃ (u : Int) (lf1 : dlf), (u = 0 ↔ trh c P T = (Q : Int)) ∧ lf1 0 = (4, 3) ∧ lf1 1 = (0, (P : Int)) ∧ lf1 2 = (0, (Q : Int)) ∧ lf1 3 = (0, (T : Int)) ∧ lf1 4 = (0, u) ∧ lf1 5 = (0, 0) ∧ lf1 6 = (0, 0) ∧ zr sv L n 104 23 lf1 [] c (c', some (0, r)) := by
    rcases t_rev0 (by omega) (by omega) (by omega) (show c (18 + 2 * P) T = trh c P T from rfl) h h0 h1 h2 h3 with ⟨z, lf1, w⟩ | ⟨z, lf1, w⟩
    · exact ⟨1, lf1, ⟨fun e => absurd e (by decide), fun e => absurd e z⟩, w⟩
    · exact ⟨0, lf1, ⟨fun _ => z, fun _ => rfl⟩, w⟩
  refine zloop (fun k lf g => k ≤ N ∧ ∃ cc : Nat, cc ≤ k ∧ lf 0 = (4, 3) ∧ lf 1 = (0, (P : Int)) ∧ lf 2 = (0, (Q : Int)) ∧ lf 3 = (0, (T : Int)) ∧ lf 4 = (0, u) ∧ lf 5 = (0, (cc : Int)) ∧ lf 6 = (0, (k : Int)) ∧ FIx c g nq N P Q T k ∧ ∃ (n' : Nat) (lf' : dlf) (g' : cg), (lf' 0 = (4, 253) ∧ lf' 1 = (0, (P : Int)) ∧ lf' 2 = (0, (Q : Int)) ∧ lf' 3 = (0, (T : Int)) ∧ lf' 4 = (0, (cc : Int)) ∧ lf' 5 = (0, (k : Int))) ∧ CT g g' np nq N ∧ FRCm d g' ∧ zr sv L n' 234 6 lf' [] g' (d', some (0, r'))) _ ?_ n 0 lfc c ⟨by omega, 0, by omega, c0, c1, c2, c3, c4, c5, c6, ⟨⟨fun _ _ _ _ => rfl, fun _ _ => rfl⟩, fun _ _ _ _ => rfl, fun _ _ _ => rfl, fun _ _ _ _ _ => rfl, fun _ _ _ => ⟨rfl, rfl⟩, fun i hi => absurd hi (Nat.not_lt_zero i), fun p hp => (hG.2.2.1 p hp).2.2.2.2.1⟩, n', lfm, d, ⟨m0, m1, m2, m3, m4, m5⟩, hC, ⟨fun _ _ _ => rfl, fun _ _ => rfl⟩, h'⟩ h
  intro n k lf g ⟨hk, cc, hcc, b0, b1, b2, b3, b4, b5, b6, hF, n', lf', g', ⟨p0, p1, p2, p3, p4, p5⟩, hCg, hM, h'⟩ h
  obtain ⟨-, ⟨-, -, gN⟩, ⟨-, -, gN'⟩, -, -, hS, hO⟩ := id hCg
  cases n' with
  | zero => exact (zr_0 h').elim
  | succ n' =>
    by_cases hlt : k < N
    · obtain ⟨v1, v2, v3, v4, v5⟩ := hV k hlt
      obtain ⟨⟨e0, e1, e2, e3⟩, l0, l1, l2, l3⟩ := (hG.2.2.2.1 k hlt).v q5 q6
      have gg := hG.2.2.2.1 k hlt
      have hF' := hF
      obtain ⟨⟨a1, a2⟩, a3, a4, a5, a6, a7, a8⟩ := hF
      obtain ⟨s5, s6⟩ := a6 k (Nat.le_refl k) (by omega)
      have oc : OHC g k (ohw c k) (ohp c k) (ohq c k) (oht c k) (c (29 + k) 4) (ohs c k) (c (29 + k) 6) := ⟨(a5 k (by omega) 0 (by decide) (by decide)).trans e0, (a5 k (by omega) 1 (by decide) (by decide)).trans e1, (a5 k (by omega) 2 (by decide) (by decide)).trans e2, (a5 k (by omega) 3 (by decide) (by decide)).trans e3, a5 k (by omega) 4 (by decide) (by decide), s5, s6⟩
      have om : OHM g' k (ohw c k) (ohp c k) (ohq c k) (oht c k) (c (29 + k) 4) (ohs c k) (c (29 + k) 6) := by
        have q := hO k hlt
        refine ⟨(q 0 (by decide)).trans oc.1, ?_, ?_, ?_, ?_, ?_, ?_⟩
        · rw [show 100 + 8 * k = 99 + 8 * k + 1 by omega]; exact (q 1 (by decide)).trans oc.2.1
        · rw [show 101 + 8 * k = 99 + 8 * k + 2 by omega]; exact (q 2 (by decide)).trans oc.2.2.1
        · rw [show 102 + 8 * k = 99 + 8 * k + 3 by omega]; exact (q 3 (by decide)).trans oc.2.2.2.1
        · rw [show 103 + 8 * k = 99 + 8 * k + 4 by omega]; exact (q 4 (by decide)).trans oc.2.2.2.2.1
        · rw [show 104 + 8 * k = 99 + 8 * k + 5 by omega]; exact (q 5 (by decide)).trans oc.2.2.2.2.2.1
        · rw [show 105 + 8 * k = 99 + 8 * k + 6 by omega]; exact (q 6 (by decide)).trans oc.2.2.2.2.2.2
      have tv : g' 254 (51 + 8 * ohp c k + oht c k) = trh c (ohp c k) (oht c k) := by
        rw [(hS _ l1).2 _ l3]
        exact a4 _ (by omega) _
      have pv : g' 254 (15 + 6 * ohw c k) = g (17 + 2 * ohw c k) 1 := (hS _ l0).1.1
      have hvv : ohp c k = P → oht c k = T → trh c (ohp c k) (oht c k) = trh c P T := fun x y => by rw [x, y]
      have sc := t_rev_s (pu := g (17 + 2 * ohw c k) 1) (by omega) (by omega) (by omega) v2 v3 v4 v5 (by omega) qN (by omega) gN oc rfl hlt h b0 b1 b2 b3 b4 b5 b6
      have sm := m_fnd6s (by omega) (by omega) (by omega) v2 v3 v4 v5 (by omega) qN (show cc ≤ 16 by omega) gN' om tv pv hlt h' p0 p1 p2 p3 p4 p5
      have up : ∀ i : Int, 1 + i = i + 1 := fun i => Int.add_comm 1 i
      rcases sc with ⟨z, lf2, w0, w1, w2, w3, w4, w5, w6, h⟩ | ⟨z, lf2, w0, w1, w2, w3, w4, w5, w6, h⟩ | ⟨z, lf2, w0, w1, w2, w3, w4, w5, w6, h⟩
      · rcases sm with ⟨z', lf3, x0, x1, x2, x3, x4, x5, h'⟩ | ⟨z', -⟩ | ⟨z', -⟩
        · refine Or.inr ⟨lf2, g, ⟨hlt, cc, by omega, w0, w1, w2, w3, w4, w5, by rw [w6]; exact congrArg _ (Int.add_comm _ _), ⟨⟨a1, a2⟩, a3, a4, a5, fun i i1 i2 => a6 i (by omega) i2, fun i i1 i2 => ?_, a8⟩, n', lf3, g', ⟨x0, x1, x2, x3, x4, by rw [x5]; exact congrArg _ (Int.add_comm _ _)⟩, hCg, hM, h'⟩, h⟩
          by_cases e : i = k
          · subst e
            refine ⟨fun _ => ⟨s5, s6⟩, fun hi => ?_⟩
            have y := isof_i.mp hi
            have hq : ohq c i = Q := by omega
            exact ⟨fun _ => ⟨by rw [s5]; exact y.1, by rw [s6]; exact gg.2.2.2.2.2.2.1⟩, fun q => absurd hq q⟩
          · exact a7 i (by omega) i2
        · exfalso; omega
        · exfalso; omega
      · rcases sm with ⟨z', -⟩ | ⟨z', lf3, x0, x1, x2, x3, x4, x5, h'⟩ | ⟨z', -⟩
        · exfalso; omega
        · have hi : isof c P T k = true := isof_t z.1 z.2.1 z.2.2.1
          have hq : ohq c k = Q := by omega
          have r0 : c (29 + k) 6 = 0 := by
            rcases gg.2.2.2.2.2.2.1 with q | q
            · exact q
            · exfalso
              have := gg.2.2.2.2.2.2.2 z.1 (by omega)
              omega
          have bd := a8 _ l0
          have cl := cnt_le (f := rfd g) N
          have fb := gg.2.2.2.2.1
          have wv : w32 (g (17 + 2 * ohw c k) 1 + c (29 + k) 4) = g (17 + 2 * ohw c k) 1 + c (29 + k) 4 := w32_id (by omega) (by omega)
          have cu : cnt (rfd (cup (cup (cup g (29 + k) 6 1) (17 + 2 * ohw c k) 1 (w32 (g (17 + 2 * ohw c k) 1 + c (29 + k) 4))) 3 8 (w32 (g 3 8 - c (29 + k) 4)))) N = cnt (rfd g) N + 1 := cnt_up (k := k) N hlt (decide_eq_false (by rw [s6, r0]; exact fun q => q rfl)) (decide_eq_true (by rw [cup_ne (by omega), cup_ne (by omega), cup_at]; decide)) (fun i hi => by unfold rfd; rw [cup_ne (by omega), cup_ne (by omega), cup_ne (by omega)])
          refine Or.inr ⟨lf2, _, ⟨hlt, cc + 1, by omega, w0, w1, w2, w3, w4, by rw [w5]; exact congrArg _ (Int.add_comm _ _), by rw [w6]; exact congrArg _ (Int.add_comm _ _), ⟨⟨fun x y i1 i2 => by rw [cup_ne (by omega), cup_ne (by omega), cup_ne (by omega)]; exact a1 x y i1 i2, fun i hi => by rw [cup_ne (by omega), cup_ne (by omega), cup_ne (by omega)]; exact a2 i hi⟩, fun i i1 j i2 => by rw [cup_ne (by omega), cup_ne (by omega), cup_ne (by omega)]; exact a3 i i1 j i2, fun i i1 t => by rw [cup_ne (by omega), cup_ne (by omega), cup_ne (by omega)]; exact a4 i i1 t, fun i i1 j i2 i3 => by rw [cup_ne (by omega), cup_ne (by omega), cup_ne (by omega)]; exact a5 i i1 j i2 i3, fun i i1 i2 => by rw [cup_ne (by omega), cup_ne (by omega), cup_ne (by omega), cup_ne (by omega), cup_ne (by omega), cup_ne (by omega)]; exact a6 i (by omega) i2, fun i i1 i2 => ?_, fun p hp => ?_⟩, n', lf3, _, ⟨x0, x1, x2, x3, by rw [x4]; exact congrArg _ (Int.add_comm _ _), by rw [x5]; exact congrArg _ (Int.add_comm _ _)⟩, ?_, ?_, h'⟩, h⟩
          · by_cases e : i = k
            · subst e
              refine ⟨fun hf => (by rw [hf] at hi; cases hi), fun _ => ⟨fun _ => ⟨?_, Or.inr ?_⟩, fun q => absurd hq q⟩⟩
              · rw [cup_ne (by omega), cup_ne (by omega), cup_ne (by omega), s5]; exact z.1
              · rw [cup_ne (by omega), cup_ne (by omega), cup_at]
            · rw [cup_ne (by omega), cup_ne (by omega), cup_ne (by omega), cup_ne (by omega), cup_ne (by omega), cup_ne (by omega)]
              exact a7 i (by omega) i2
          · rw [cu, cup_ne (by omega)]
            by_cases e : p = ohw c k
            · rw [e, cup_at, wv]; omega
            · rw [cup_ne (by omega), cup_ne (by omega)]
              have := a8 p hp
              omega
          · have t6 : g' 254 6 = g 3 8 := hCg.2.2.2.1.2.2.2
            rw [t6]
            have k1 := ((hCg.oset (k := k) (j := 6) (by omega) (by decide) 1).pset (i := ohw c k) (j := 1) (by omega) (by decide) (w32 (g (17 + 2 * ohw c k) 1 + c (29 + k) 4))).sset (j := 6) (by decide) (w32 (g 3 8 - c (29 + k) 4))
            rw [show 99 + 8 * k + 6 = 105 + 8 * k by omega, show 14 + 6 * ohw c k + 1 = 15 + 6 * ohw c k by omega] at k1
            exact k1
          · exact ⟨fun x y hx => by rw [cup_ne (by omega), cup_ne (by omega), cup_ne (by omega)]; exact hM.1 x y hx, fun y hy => by rw [cup_ne (by omega), cup_ne (by omega), cup_ne (by omega)]; exact hM.2 y hy⟩
        · exfalso; omega
      · rcases sm with ⟨z', -⟩ | ⟨z', -⟩ | ⟨z', lf3, x0, x1, x2, x3, x4, x5, h'⟩
        · exfalso; omega
        · exfalso; omega
        · have hi : isof c P T k = true := isof_t z.1 z.2.1 z.2.2.1
          have hq : ohq c k ≠ Q := by omega
          have cu : cnt (rfd (cup g (29 + k) 5 1)) N = cnt (rfd g) N := cntr (fun i _ => cup_ne (by omega))
          refine Or.inr ⟨lf2, _, ⟨hlt, cc, by omega, w0, w1, w2, w3, w4, w5, by rw [w6]; exact congrArg _ (Int.add_comm _ _), ⟨⟨fun x y i1 i2 => by rw [cup_ne (by omega)]; exact a1 x y i1 i2, fun i hi => by rw [cup_ne (by omega)]; exact a2 i hi⟩, fun i i1 j i2 => by rw [cup_ne (by omega)]; exact a3 i i1 j i2, fun i i1 t => by rw [cup_ne (by omega)]; exact a4 i i1 t, fun i i1 j i2 i3 => by rw [cup_ne (by omega)]; exact a5 i i1 j i2 i3, fun i i1 i2 => by rw [cup_ne (by omega), cup_ne (by omega)]; exact a6 i (by omega) i2, fun i i1 i2 => ?_, fun p hp => by rw [cu, cup_ne (by omega)]; exact a8 p hp⟩, n', lf3, _, ⟨x0, x1, x2, x3, x4, by rw [x5]; exact congrArg _ (Int.add_comm _ _)⟩, ?_, ⟨fun x y hx => by rw [cup_ne (by omega)]; exact hM.1 x y hx, fun y hy => by rw [cup_ne (by omega)]; exact hM.2 y hy⟩, h'⟩, h⟩
          · by_cases e : i = k
            · subst e
              refine ⟨fun hf => (by rw [hf] at hi; cases hi), fun _ => ⟨fun q => absurd q hq, fun _ => ⟨by rw [cup_at], by rw [cup_ne (by omega)]; exact s6⟩⟩⟩
            · rw [cup_ne (by omega), cup_ne (by omega)]
              exact a7 i (by omega) i2
          · have k1 := hCg.oset (k := k) (j := 5) (by omega) (by decide) 1
            rw [show 99 + 8 * k + 5 = 104 + 8 * k by omega] at k1
            exact k1
    · have ek : k = N := by omega
      subst ek
      have e1 := t_rev_e (by omega) (by omega) (by omega) qN qN (show cc ≤ 16 by omega) gN (Nat.le_refl _) h b0 b1 b2 b3 b4 b5 b6
      have e2 := m_fnd6e (by omega) (by omega) (by omega) qN qN (show cc ≤ 16 by omega) gN' (Nat.le_refl _) h' p0 p1 p2 p3 p4 p5
      obtain ⟨u1, u2⟩ := oI e1
      obtain ⟨u3, u4⟩ := oI e2
      refine Or.inl ⟨by rw [u2, u4], by omega, ?_, ?_, ?_, ?_⟩
      · rw [u1, u3]
        exact hCg.tset (by omega) hT _
      · rw [u1]
        exact fi_gd hP hQ hT q5 q6 qN hG hF
      · rw [u1]
        exact ⟨fun x y i1 i2 => by rw [cup_ne (by omega)]; exact hF.1.1 x y i1 i2, fun i hi => by rw [cup_ne (by omega)]; exact hF.1.2 i hi⟩
      · rw [u3]
        exact ⟨fun x y hx => by rw [cup_ne (by omega)]; exact hM.1 x y hx, fun y hy => by rw [cup_ne (by omega)]; exact hM.2 y hy⟩
end Fnd
