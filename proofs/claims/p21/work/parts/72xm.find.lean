section
/-! FIND, on both sides -/
def FRCc (c c' : cg) : Prop := (∀ k j : Nat, ¬ (k = 3 ∧ 8 ≤ j ∧ j ≤ 9) → (k < 17 ∨ 45 ≤ k) → c' k j = c k j) ∧ ∀ i : Nat, i < 6 → c' (17 + 2 * i) 0 = c (17 + 2 * i) 0
def FRCm (d d' : cg) : Prop := (∀ k j : Nat, k ≠ 254 → d' k j = d k j) ∧ ∀ j : Nat, (j = 7 ∨ 260 ≤ j) → d' 254 j = d 254 j
def FIx (c g : cg) (nq N P Q T k : Nat) : Prop := FRCc c g ∧ (∀ i : Nat, i < 6 → ∀ j : Nat, 2 ≤ j → g (17 + 2 * i) j = c (17 + 2 * i) j) ∧ (∀ i : Nat, i < 6 → ∀ t : Nat, g (18 + 2 * i) t = c (18 + 2 * i) t) ∧ (∀ i : Nat, i < 16 → ∀ j : Nat, j ≠ 5 → j ≠ 6 → g (29 + i) j = c (29 + i) j) ∧ (∀ i : Nat, k ≤ i → i < 16 → g (29 + i) 5 = c (29 + i) 5 ∧ g (29 + i) 6 = c (29 + i) 6) ∧ (∀ i : Nat, i < k → i < N → (isof c P T i = false → g (29 + i) 5 = c (29 + i) 5 ∧ g (29 + i) 6 = c (29 + i) 6) ∧ (isof c P T i = true → (ohq c i = Q → g (29 + i) 5 = 0 ∧ (g (29 + i) 6 = 0 ∨ g (29 + i) 6 = 1)) ∧ (ohq c i ≠ Q → g (29 + i) 5 = 1 ∧ g (29 + i) 6 = c (29 + i) 6))) ∧ ∀ p : Nat, p < nq → 0 ≤ g (17 + 2 * p) 1 ∧ g (17 + 2 * p) 1 ≤ 9999 + 2000 * (cnt (rfd g) N : Int)
theorem cntr {g g' : cg} {N : Nat} (h : ∀ i : Nat, i < N → g' (29 + i) 6 = g (29 + i) 6) : cnt (rfd g') N = cnt (rfd g) N := cnt_congr N (fun i hi => by unfold rfd; rw [h i hi])
section Fnd
variable {sv : Nat → Int32} {L : Nat} {n n' : Nat} {lf lf' : dlf} {c d c' d' g g' : cg} {np nq N P Q T : Nat} {r r' : Int}
theorem fi_gd (hP : P < nq) (hQ : Q < np) (hT : T < 8) (h5 : np ≤ 5) (h6 : nq ≤ 6) (hN : N ≤ 16) (hG : GD c np nq N) (h : FIx c g nq N P Q T N) : GD (cup g (18 + 2 * P) T (Q : Int)) np nq N := by
  obtain ⟨⟨a1, a2⟩, a3, a4, a5, a6, a7, a8⟩ := h
  obtain ⟨⟨b1, b2, b3⟩, b4, b5, b6, b7⟩ := hG
  have C : ∀ x y : Nat, ¬ (x = 18 + 2 * P ∧ y = T) → cup g (18 + 2 * P) T (Q : Int) x y = g x y := fun x y q => cup_ne q
  have o : ∀ i : Nat, i < N → ohw (cup g (18 + 2 * P) T (Q : Int)) i = ohw c i ∧ ohp (cup g (18 + 2 * P) T (Q : Int)) i = ohp c i ∧ ohq (cup g (18 + 2 * P) T (Q : Int)) i = ohq c i ∧ oht (cup g (18 + 2 * P) T (Q : Int)) i = oht c i ∧ ohs (cup g (18 + 2 * P) T (Q : Int)) i = g (29 + i) 5 := fun i hi => by
    unfold ohw ohp ohq oht ohs
    rw [C _ _ (by omega), C _ _ (by omega), C _ _ (by omega), C _ _ (by omega), C _ _ (by omega), a5 i (by omega) 0 (by decide) (by decide), a5 i (by omega) 1 (by decide) (by decide), a5 i (by omega) 2 (by decide) (by decide), a5 i (by omega) 3 (by decide) (by decide)]
    exact ⟨rfl, rfl, rfl, rfl, rfl⟩
  have st : ∀ i : Nat, i < N → g (29 + i) 5 = 0 → ohs c i = 0 := fun i hi e => by
    obtain ⟨x1, x2⟩ := a7 i hi hi
    cases hb : isof c P T i with
    | true => exact (isof_i.mp hb).1
    | false => rw [(x1 hb).1] at e; exact e
  have hr : cnt (rfd (cup g (18 + 2 * P) T (Q : Int))) N = cnt (rfd g) N := cntr (fun i hi => C _ _ (by omega))
  refine ⟨⟨by rw [C _ _ (by omega), a1 _ _ (by omega) (by omega)]; exact b1, by rw [C _ _ (by omega), a1 _ _ (by omega) (by omega)]; exact b2, by rw [C _ _ (by omega), a1 _ _ (by omega) (by omega)]; exact b3⟩, fun i hi => by rw [C _ _ (by omega), a1 _ _ (by omega) (by omega)]; exact b4 i hi, fun i hi => ?_, fun k hk => ?_, fun i k hi hk => ?_⟩
  · obtain ⟨p1, p2, p3, p4, -, p6⟩ := b5 i hi
    refine ⟨by rw [C _ _ (by omega), a3 i (by omega) 2 (by decide)]; exact p1, by rw [C _ _ (by omega), a3 i (by omega) 3 (by decide)]; exact p2, by rw [C _ _ (by omega), a3 i (by omega) 4 (by decide)]; exact p3, by rw [C _ _ (by omega), a3 i (by omega) 5 (by decide)]; exact p4, by rw [C _ _ (by omega), hr]; exact a8 i hi, fun t ht => ?_⟩
    unfold trh
    by_cases e : i = P ∧ t = T
    · rw [e.1, e.2, cup_at]; omega
    · rw [C _ _ (by omega), a4 i (by omega) t]; exact p6 t ht
  · obtain ⟨p0, p1, p2, p3, p4, p5, p6, p7⟩ := b6 k hk
    obtain ⟨x1, x2⟩ := a7 k hk hk
    obtain ⟨o0, o1, o2, o3, o5⟩ := o k hk
    refine ⟨by rw [C _ _ (by omega), a5 k (by omega) 0 (by decide) (by decide)]; exact p0, by rw [C _ _ (by omega), a5 k (by omega) 1 (by decide) (by decide)]; exact p1, by rw [C _ _ (by omega), a5 k (by omega) 2 (by decide) (by decide)]; exact p2, by rw [C _ _ (by omega), a5 k (by omega) 3 (by decide) (by decide)]; exact p3, by rw [C _ _ (by omega), a5 k (by omega) 4 (by decide) (by decide)]; exact p4, ?_, ?_, ?_⟩
    · rw [C _ _ (by omega)]
      cases hb : isof c P T k with
      | true =>
        by_cases e : ohq c k = Q
        · exact Or.inl ((x2 hb).1 e).1
        · exact Or.inr (Or.inl ((x2 hb).2 e).1)
      | false => rw [(x1 hb).1]; exact p5
    · rw [C _ _ (by omega)]
      cases hb : isof c P T k with
      | true =>
        by_cases e : ohq c k = Q
        · exact ((x2 hb).1 e).2
        · rw [((x2 hb).2 e).2]; exact p6
      | false => rw [(x1 hb).2]; exact p6
    · rw [o5, o1, o3, o2, C _ _ (by omega)]
      intro e1 e2
      unfold trh
      cases hb : isof c P T k with
      | true =>
        have y := isof_i.mp hb
        by_cases e : ohq c k = Q
        · rw [y.2.1, y.2.2, cup_at, e]
        · have := ((x2 hb).2 e).1
          omega
      | false =>
        have y := x1 hb
        rw [y.1] at e1
        rw [y.2] at e2
        have ne : ¬ (ohp c k = P ∧ oht c k = T) := fun q => by
          have := isof_i.mpr ⟨e1, q.1, q.2⟩
          rw [hb] at this
          cases this
        obtain ⟨-, -, l1, -, l3⟩ := (b6 k hk).v h5 h6
        rw [C _ _ (by omega), a4 _ (by omega) _]
        exact p7 e1 e2
  · obtain ⟨i0, i1, i2, i3, i5⟩ := o i (by omega)
    obtain ⟨k0, k1, k2, k3, k5⟩ := o k hk
    rw [i5, k5, i1, k1, i3, k3, i0, k0]
    intro e1 e2
    exact b7 i k hi hk (st i (by omega) e1) (st k hk e2)
theorem find_pr (hP : P < nq) (hQ : Q < np) (hT : T < 8) (hC : CT c d np nq N) (hG : GD c np nq N) (h : zr sv L n 104 0 lf [] c (c', some (0, r))) (h0 : lf 0 = (4, 3)) (h1 : lf 1 = (0, (P : Int))) (h2 : lf 2 = (0, (Q : Int))) (h3 : lf 3 = (0, (T : Int))) (h' : zr sv L n' 234 0 lf' [] d (d', some (0, r'))) (h0' : lf' 0 = (4, 253)) (h1' : lf' 1 = (0, (P : Int))) (h2' : lf' 2 = (0, (Q : Int))) (h3' : lf' 3 = (0, (T : Int))) : r = r' ∧ 0 ≤ r ∧ CT c' d' np nq N ∧ GD c' np nq N ∧ FRCc c c' ∧ FRCm d d' := by
  obtain ⟨⟨q5, q6, qN⟩, -⟩ := id hC
  have hV := hG.hv q5 q6
  obtain ⟨lfm, m0, m1, m2, m3, m4, m5, h'⟩ := m_fnd0 (by omega) (by omega) (by omega) h' h0' h1' h2' h3'
  obtain ⟨u, lfc, hu, c0, c1, c2, c3, c4, c5, c6, h⟩ : ∃ (u : Int) (lf1 : dlf), (u = 0 ↔ trh c P T = (Q : Int)) ∧ lf1 0 = (4, 3) ∧ lf1 1 = (0, (P : Int)) ∧ lf1 2 = (0, (Q : Int)) ∧ lf1 3 = (0, (T : Int)) ∧ lf1 4 = (0, u) ∧ lf1 5 = (0, 0) ∧ lf1 6 = (0, 0) ∧ zr sv L n 104 23 lf1 [] c (c', some (0, r)) := by
    rcases t_rev0 (by omega) (by omega) (by omega) (show c (18 + 2 * P) T = trh c P T from rfl) h h0 h1 h2 h3 with ⟨z, lf1, w⟩ | ⟨z, lf1, w⟩
    · exact ⟨1, lf1, ⟨fun e => absurd e (by decide), fun e => absurd e z⟩, w⟩
    · exact ⟨0, lf1, ⟨fun _ => z, fun _ => rfl⟩, w⟩
  refine zloop (fun k lf g => k ≤ N ∧ ∃ cc : Nat, cc ≤ k ∧ lf 0 = (4, 3) ∧ lf 1 = (0, (P : Int)) ∧ lf 2 = (0, (Q : Int)) ∧ lf 3 = (0, (T : Int)) ∧ lf 4 = (0, u) ∧ lf 5 = (0, (cc : Int)) ∧ lf 6 = (0, (k : Int)) ∧ FIx c g nq N P Q T k ∧ ∃ (n' : Nat) (lf' : dlf) (g' : cg), (lf' 0 = (4, 253) ∧ lf' 1 = (0, (P : Int)) ∧ lf' 2 = (0, (Q : Int)) ∧ lf' 3 = (0, (T : Int)) ∧ lf' 4 = (0, (cc : Int)) ∧ lf' 5 = (0, (k : Int))) ∧ CT g g' np nq N ∧ FRCm d g' ∧ zr sv L n' 234 6 lf' [] g' (d', some (0, r'))) _ ?_ n 0 lfc c ⟨by omega, 0, by omega, c0, c1, c2, c3, c4, c5, c6, ⟨⟨fun _ _ _ _ => rfl, fun _ _ => rfl⟩, fun _ _ _ _ => rfl, fun _ _ _ => rfl, fun _ _ _ _ _ => rfl, fun _ _ _ => ⟨rfl, rfl⟩, fun i hi => absurd hi (Nat.not_lt_zero i), fun p hp => (hG.2.2.1 p hp).2.2.2.2.1⟩, n', lfm, d, ⟨m0, m1, m2, m3, m4, m5⟩, hC, ⟨fun _ _ _ => rfl, fun _ _ => rfl⟩, h'⟩ h
  intro n k lf g ⟨hk, cc, hcc, b0, b1, b2, b3, b4, b5, b6, hF, n', lf', g', ⟨p0, p1, p2, p3, p4, p5⟩, hCg, hM, h'⟩ h
  obtain ⟨-, ⟨-, -, gN⟩, ⟨-, -, gN'⟩, -, -, hS, hO⟩ := id hCg
  cases n' with
  | zero => exact (zr_0 h').elim
  | succ n' =>
    by_cases hlt : k < N
    · obtain ⟨v1, v2, v3, v4, v5⟩ := hV k hlt
      obtain ⟨⟨e0, e1, e2, e3⟩, l0, l1, l2, l3⟩ := (hG.2.2.2.1 k hlt).v q5 q6
      have gg := hG.2.2.2.1 k hlt
      have hF' := hF
      obtain ⟨⟨a1, a2⟩, a3, a4, a5, a6, a7, a8⟩ := hF
      obtain ⟨s5, s6⟩ := a6 k (Nat.le_refl k) (by omega)
      have oc : OHC g k (ohw c k) (ohp c k) (ohq c k) (oht c k) (c (29 + k) 4) (ohs c k) (c (29 + k) 6) := ⟨(a5 k (by omega) 0 (by decide) (by decide)).trans e0, (a5 k (by omega) 1 (by decide) (by decide)).trans e1, (a5 k (by omega) 2 (by decide) (by decide)).trans e2, (a5 k (by omega) 3 (by decide) (by decide)).trans e3, a5 k (by omega) 4 (by decide) (by decide), s5, s6⟩
      have om : OHM g' k (ohw c k) (ohp c k) (ohq c k) (oht c k) (c (29 + k) 4) (ohs c k) (c (29 + k) 6) := by
        have q := hO k hlt
        refine ⟨(q 0 (by decide)).trans oc.1, ?_, ?_, ?_, ?_, ?_, ?_⟩
        · rw [show 100 + 8 * k = 99 + 8 * k + 1 by omega]; exact (q 1 (by decide)).trans oc.2.1
        · rw [show 101 + 8 * k = 99 + 8 * k + 2 by omega]; exact (q 2 (by decide)).trans oc.2.2.1
        · rw [show 102 + 8 * k = 99 + 8 * k + 3 by omega]; exact (q 3 (by decide)).trans oc.2.2.2.1
        · rw [show 103 + 8 * k = 99 + 8 * k + 4 by omega]; exact (q 4 (by decide)).trans oc.2.2.2.2.1
        · rw [show 104 + 8 * k = 99 + 8 * k + 5 by omega]; exact (q 5 (by decide)).trans oc.2.2.2.2.2.1
        · rw [show 105 + 8 * k = 99 + 8 * k + 6 by omega]; exact (q 6 (by decide)).trans oc.2.2.2.2.2.2
      have tv : g' 254 (51 + 8 * ohp c k + oht c k) = trh c (ohp c k) (oht c k) := by
        rw [(hS _ l1).2 _ l3]
        exact a4 _ (by omega) _
      have pv : g' 254 (15 + 6 * ohw c k) = g (17 + 2 * ohw c k) 1 := (hS _ l0).1.1
      have hvv : ohp c k = P → oht c k = T → trh c (ohp c k) (oht c k) = trh c P T := fun x y => by rw [x, y]
      have sc := t_rev_s (pu := g (17 + 2 * ohw c k) 1) (by omega) (by omega) (by omega) v2 v3 v4 v5 (by omega) qN (by omega) gN oc rfl hlt h b0 b1 b2 b3 b4 b5 b6
      have sm := m_fnd6s (by omega) (by omega) (by omega) v2 v3 v4 v5 (by omega) qN (show cc ≤ 16 by omega) gN' om tv pv hlt h' p0 p1 p2 p3 p4 p5
      have up : ∀ i : Int, 1 + i = i + 1 := fun i => Int.add_comm 1 i
      rcases sc with ⟨z, lf2, w0, w1, w2, w3, w4, w5, w6, h⟩ | ⟨z, lf2, w0, w1, w2, w3, w4, w5, w6, h⟩ | ⟨z, lf2, w0, w1, w2, w3, w4, w5, w6, h⟩
      · rcases sm with ⟨z', lf3, x0, x1, x2, x3, x4, x5, h'⟩ | ⟨z', -⟩ | ⟨z', -⟩
        · refine Or.inr ⟨lf2, g, ⟨hlt, cc, by omega, w0, w1, w2, w3, w4, w5, by rw [w6]; exact congrArg _ (Int.add_comm _ _), ⟨⟨a1, a2⟩, a3, a4, a5, fun i i1 i2 => a6 i (by omega) i2, fun i i1 i2 => ?_, a8⟩, n', lf3, g', ⟨x0, x1, x2, x3, x4, by rw [x5]; exact congrArg _ (Int.add_comm _ _)⟩, hCg, hM, h'⟩, h⟩
          by_cases e : i = k
          · subst e
            refine ⟨fun _ => ⟨s5, s6⟩, fun hi => ?_⟩
            have y := isof_i.mp hi
            have hq : ohq c i = Q := by omega
            exact ⟨fun _ => ⟨by rw [s5]; exact y.1, by rw [s6]; exact gg.2.2.2.2.2.2.1⟩, fun q => absurd hq q⟩
          · exact a7 i (by omega) i2
        · exfalso; omega
        · exfalso; omega
      · rcases sm with ⟨z', -⟩ | ⟨z', lf3, x0, x1, x2, x3, x4, x5, h'⟩ | ⟨z', -⟩
        · exfalso; omega
        · have hi : isof c P T k = true := isof_t z.1 z.2.1 z.2.2.1
          have hq : ohq c k = Q := by omega
          have r0 : c (29 + k) 6 = 0 := by
            rcases gg.2.2.2.2.2.2.1 with q | q
            · exact q
            · exfalso
              have := gg.2.2.2.2.2.2.2 z.1 (by omega)
              omega
          have bd := a8 _ l0
          have cl := cnt_le (f := rfd g) N
          have fb := gg.2.2.2.2.1
          have wv : w32 (g (17 + 2 * ohw c k) 1 + c (29 + k) 4) = g (17 + 2 * ohw c k) 1 + c (29 + k) 4 := w32_id (by omega) (by omega)
          have cu : cnt (rfd (cup (cup (cup g (29 + k) 6 1) (17 + 2 * ohw c k) 1 (w32 (g (17 + 2 * ohw c k) 1 + c (29 + k) 4))) 3 8 (w32 (g 3 8 - c (29 + k) 4)))) N = cnt (rfd g) N + 1 := cnt_up (k := k) N hlt (decide_eq_false (by rw [s6, r0]; exact fun q => q rfl)) (decide_eq_true (by rw [cup_ne (by omega), cup_ne (by omega), cup_at]; decide)) (fun i hi => by unfold rfd; rw [cup_ne (by omega), cup_ne (by omega), cup_ne (by omega)])
          refine Or.inr ⟨lf2, _, ⟨hlt, cc + 1, by omega, w0, w1, w2, w3, w4, by rw [w5]; exact congrArg _ (Int.add_comm _ _), by rw [w6]; exact congrArg _ (Int.add_comm _ _), ⟨⟨fun x y i1 i2 => by rw [cup_ne (by omega), cup_ne (by omega), cup_ne (by omega)]; exact a1 x y i1 i2, fun i hi => by rw [cup_ne (by omega), cup_ne (by omega), cup_ne (by omega)]; exact a2 i hi⟩, fun i i1 j i2 => by rw [cup_ne (by omega), cup_ne (by omega), cup_ne (by omega)]; exact a3 i i1 j i2, fun i i1 t => by rw [cup_ne (by omega), cup_ne (by omega), cup_ne (by omega)]; exact a4 i i1 t, fun i i1 j i2 i3 => by rw [cup_ne (by omega), cup_ne (by omega), cup_ne (by omega)]; exact a5 i i1 j i2 i3, fun i i1 i2 => by rw [cup_ne (by omega), cup_ne (by omega), cup_ne (by omega), cup_ne (by omega), cup_ne (by omega), cup_ne (by omega)]; exact a6 i (by omega) i2, fun i i1 i2 => ?_, fun p hp => ?_⟩, n', lf3, _, ⟨x0, x1, x2, x3, by rw [x4]; exact congrArg _ (Int.add_comm _ _), by rw [x5]; exact congrArg _ (Int.add_comm _ _)⟩, ?_, ?_, h'⟩, h⟩
          · by_cases e : i = k
            · subst e
              refine ⟨fun hf => (by rw [hf] at hi; cases hi), fun _ => ⟨fun _ => ⟨?_, Or.inr ?_⟩, fun q => absurd hq q⟩⟩
              · rw [cup_ne (by omega), cup_ne (by omega), cup_ne (by omega), s5]; exact z.1
              · rw [cup_ne (by omega), cup_ne (by omega), cup_at]
            · rw [cup_ne (by omega), cup_ne (by omega), cup_ne (by omega), cup_ne (by omega), cup_ne (by omega), cup_ne (by omega)]
              exact a7 i (by omega) i2
          · rw [cu, cup_ne (by omega)]
            by_cases e : p = ohw c k
            · rw [e, cup_at, wv]; omega
            · rw [cup_ne (by omega), cup_ne (by omega)]
              have := a8 p hp
              omega
          · have t6 : g' 254 6 = g 3 8 := hCg.2.2.2.1.2.2.2
            rw [t6]
            have k1 := ((hCg.oset (k := k) (j := 6) (by omega) (by decide) 1).pset (i := ohw c k) (j := 1) (by omega) (by decide) (w32 (g (17 + 2 * ohw c k) 1 + c (29 + k) 4))).sset (j := 6) (by decide) (w32 (g 3 8 - c (29 + k) 4))
            rw [show 99 + 8 * k + 6 = 105 + 8 * k by omega, show 14 + 6 * ohw c k + 1 = 15 + 6 * ohw c k by omega] at k1
            exact k1
          · exact ⟨fun x y hx => by rw [cup_ne (by omega), cup_ne (by omega), cup_ne (by omega)]; exact hM.1 x y hx, fun y hy => by rw [cup_ne (by omega), cup_ne (by omega), cup_ne (by omega)]; exact hM.2 y hy⟩
        · exfalso; omega
      · rcases sm with ⟨z', -⟩ | ⟨z', -⟩ | ⟨z', lf3, x0, x1, x2, x3, x4, x5, h'⟩
        · exfalso; omega
        · exfalso; omega
        · have hi : isof c P T k = true := isof_t z.1 z.2.1 z.2.2.1
          have hq : ohq c k ≠ Q := by omega
          have cu : cnt (rfd (cup g (29 + k) 5 1)) N = cnt (rfd g) N := cntr (fun i _ => cup_ne (by omega))
          refine Or.inr ⟨lf2, _, ⟨hlt, cc, by omega, w0, w1, w2, w3, w4, w5, by rw [w6]; exact congrArg _ (Int.add_comm _ _), ⟨⟨fun x y i1 i2 => by rw [cup_ne (by omega)]; exact a1 x y i1 i2, fun i hi => by rw [cup_ne (by omega)]; exact a2 i hi⟩, fun i i1 j i2 => by rw [cup_ne (by omega)]; exact a3 i i1 j i2, fun i i1 t => by rw [cup_ne (by omega)]; exact a4 i i1 t, fun i i1 j i2 i3 => by rw [cup_ne (by omega)]; exact a5 i i1 j i2 i3, fun i i1 i2 => by rw [cup_ne (by omega), cup_ne (by omega)]; exact a6 i (by omega) i2, fun i i1 i2 => ?_, fun p hp => by rw [cu, cup_ne (by omega)]; exact a8 p hp⟩, n', lf3, _, ⟨x0, x1, x2, x3, x4, by rw [x5]; exact congrArg _ (Int.add_comm _ _)⟩, ?_, ⟨fun x y hx => by rw [cup_ne (by omega)]; exact hM.1 x y hx, fun y hy => by rw [cup_ne (by omega)]; exact hM.2 y hy⟩, h'⟩, h⟩
          · by_cases e : i = k
            · subst e
              refine ⟨fun hf => (by rw [hf] at hi; cases hi), fun _ => ⟨fun q => absurd q hq, fun _ => ⟨by rw [cup_at], by rw [cup_ne (by omega)]; exact s6⟩⟩⟩
            · rw [cup_ne (by omega), cup_ne (by omega)]
              exact a7 i (by omega) i2
          · have k1 := hCg.oset (k := k) (j := 5) (by omega) (by decide) 1
            rw [show 99 + 8 * k + 5 = 104 + 8 * k by omega] at k1
            exact k1
    · have ek : k = N := by omega
      subst ek
      have e1 := t_rev_e (by omega) (by omega) (by omega) qN qN (show cc ≤ 16 by omega) gN (Nat.le_refl _) h b0 b1 b2 b3 b4 b5 b6
      have e2 := m_fnd6e (by omega) (by omega) (by omega) qN qN (show cc ≤ 16 by omega) gN' (Nat.le_refl _) h' p0 p1 p2 p3 p4 p5
      obtain ⟨u1, u2⟩ := oI e1
      obtain ⟨u3, u4⟩ := oI e2
      refine Or.inl ⟨by rw [u2, u4], by omega, ?_, ?_, ?_, ?_⟩
      · rw [u1, u3]
        exact hCg.tset (by omega) hT _
      · rw [u1]
        exact fi_gd hP hQ hT q5 q6 qN hG hF
      · rw [u1]
        exact ⟨fun x y i1 i2 => by rw [cup_ne (by omega)]; exact hF.1.1 x y i1 i2, fun i hi => by rw [cup_ne (by omega)]; exact hF.1.2 i hi⟩
      · rw [u3]
        exact ⟨fun x y hx => by rw [cup_ne (by omega)]; exact hM.1 x y hx, fun y hy => by rw [cup_ne (by omega)]; exact hM.2 y hy⟩
end Fnd
end
section
/-! what FITS, on both sides -/
theorem sq_abs (a : Int) : a * a = ((a.natAbs * a.natAbs : Nat) : Int) := by cases a <;> rfl
theorem sqn : ∀ a : Nat, a < 61 → ∀ b : Nat, b < 421 → (a * a ≤ b * b ↔ a ≤ b) := by decide +kernel
theorem w32_sq {a : Int} (h : a.natAbs < 421) : w32 (a * a) = ((a.natAbs * a.natAbs : Nat) : Int) := by
  have : a.natAbs * a.natAbs ≤ 420 * 420 := Nat.mul_le_mul (by omega) (by omega)
  rw [sq_abs, w32_id (by omega) (by omega)]
def FITP (sp x y : Int) (q t Q T : Nat) : Prop := (t = T ∧ q = Q) ∨ (t ≠ T ∧ (x - y).natAbs ≤ (sp * ((t : Int) - (T : Int))).natAbs)
theorem ngs : ∀ k : Nat, k < 2001 → (-i32 ((k : Int) - 1000)).toInt = -((k : Int) - 1000) := by decide +kernel
theorem ng32 {z : Int} (h0 : -1000 ≤ z) (h1 : z ≤ 1000) : (-i32 z).toInt = -z := by
  have := ngs (z + 1000).toNat (by omega)
  rw [show (((z + 1000).toNat : Nat) : Int) - 1000 = z by omega] at this
  exact this
theorem spb {sp e : Int} (h0 : 0 ≤ sp) (h1 : sp ≤ 60) (e0 : -7 ≤ e) (e1 : e ≤ 7) : (sp * e).natAbs < 421 := by
  rw [Int.natAbs_mul]
  have : sp.natAbs * e.natAbs ≤ 60 * 7 := Nat.mul_le_mul (by omega) (by omega)
  omega
section Fit
variable {sv : Nat → Int32} {L : Nat} {n : Nat} {lf : dlf} {g : cg} {o : cg × Option cv} {q t Q T : Nat} {x y sp : Int}
theorem t_fit_ok (rq : q ≤ 4) (rt : t ≤ 7) (rQ : Q ≤ 4) (rT : T ≤ 7) (hx : g 4 q = x) (hy : g 4 Q = y) (hs : g 3 7 = sp) (x0 : 0 ≤ x ∧ x ≤ 60) (y0 : 0 ≤ y ∧ y ≤ 60) (s0 : 0 ≤ sp ∧ sp ≤ 60) (h : zr sv L n 101 0 lf [] g o) (h0 : lf 0 = (4, 3)) (h1 : lf 1 = (0, (q : Int))) (h2 : lf 2 = (0, (t : Int))) (h3 : lf 3 = (0, (Q : Int))) (h4 : lf 4 = (0, (T : Int))) : (FITP sp x y q t Q T ∧ o = (g, some (0, 1))) ∨ (¬ FITP sp x y q t Q T ∧ o = (g, some (0, 0))) := by
  have hh := t_fit rq rt rQ rT hx hy hs h h0 h1 h2 h3 h4
  have e : -(T : Int) + (t : Int) = (t : Int) - (T : Int) := by omega
  have bA := spb (e := (t : Int) - (T : Int)) s0.1 s0.2 (by omega) (by omega)
  rw [e, w32_id (z := sp * ((t : Int) - (T : Int))) (by omega) (by omega), w32_id (z := x - y) (by omega) (by omega), w32_sq bA, w32_sq (a := x - y) (by omega)] at hh
  have hq := sqn (x - y).natAbs (by omega) (sp * ((t : Int) - (T : Int))).natAbs bA
  unfold FITP
  generalize (sp * ((t : Int) - (T : Int))).natAbs = A at hh hq
  generalize (x - y).natAbs = B at hh hq
  generalize A * A = AA at hh hq
  generalize B * B = BB at hh hq
  rcases hh with ⟨z, o1⟩ | ⟨z, o1⟩
  · exact Or.inr ⟨by omega, o1⟩
  · exact Or.inl ⟨by omega, o1⟩
theorem m_fit_ok (rq : q ≤ 4) (rt : t ≤ 7) (rQ : Q ≤ 4) (rT : T ≤ 7) (hx : g 254 (10 + q) = x) (hy : g 254 (10 + Q) = y) (hs : g 254 5 = sp) (x0 : 0 ≤ x ∧ x ≤ 60) (y0 : 0 ≤ y ∧ y ≤ 60) (s0 : 0 ≤ sp ∧ sp ≤ 60) (h : zr sv L n 231 0 lf [] g o) (h0 : lf 0 = (4, 253)) (h1 : lf 1 = (0, (q : Int))) (h2 : lf 2 = (0, (t : Int))) (h3 : lf 3 = (0, (Q : Int))) (h4 : lf 4 = (0, (T : Int))) : (FITP sp x y q t Q T ∧ o = (g, some (0, 1))) ∨ (¬ FITP sp x y q t Q T ∧ o = (g, some (0, 0))) := by
  have hh := m_fit rq rt rQ rT hx hy hs h h0 h1 h2 h3 h4
  have e : -(T : Int) + (t : Int) = (t : Int) - (T : Int) := by omega
  have bA := spb (e := (t : Int) - (T : Int)) s0.1 s0.2 (by omega) (by omega)
  have e2 : sp * -((t : Int) - (T : Int)) = -(sp * ((t : Int) - (T : Int))) := Int.mul_neg _ _
  rw [e, ng32 (z := (t : Int) - (T : Int)) (by omega) (by omega), e2, w32_id (z := sp * ((t : Int) - (T : Int))) (by omega) (by omega), w32_id (z := -(sp * ((t : Int) - (T : Int)))) (by omega) (by omega), w32_id (z := x - y) (by omega) (by omega), ng32 (z := x - y) (by omega) (by omega)] at hh
  have n1 : 0 ≤ (t : Int) - (T : Int) → 0 ≤ sp * ((t : Int) - (T : Int)) := fun q => Int.mul_nonneg s0.1 q
  have n2 : (t : Int) - (T : Int) < 0 → 0 ≤ -(sp * ((t : Int) - (T : Int))) := fun q => by
    rw [← e2]
    exact Int.mul_nonneg s0.1 (by omega)
  unfold FITP
  generalize sp * ((t : Int) - (T : Int)) = A at hh n1 n2 bA
  rcases hh with ⟨z, o1⟩ | ⟨z, o1⟩
  · exact Or.inr ⟨by omega, o1⟩
  · exact Or.inl ⟨by omega, o1⟩
end Fit
end
section
/-! an OATH is entered, on both sides: which OATHS are VOID by it -/
def fitb (sp x y : Int) (q t Q T : Nat) : Bool := decide ((t = T ∧ q = Q) ∨ (t ≠ T ∧ (x - y).natAbs ≤ (sp * ((t : Int) - (T : Int))).natAbs))
theorem fitb_i {sp x y : Int} {q t Q T : Nat} : fitb sp x y q t Q T = true ↔ FITP sp x y q t Q T := decide_eq_true_iff
def gsx (c : cg) (W P Q T i : Nat) : Bool := gns c W P Q T i && decide (c (17 + 2 * W) 2 ≠ 0)
def msx (c : cg) (P Q T i : Nat) : Bool := decide (trh c P T ≠ (Q : Int)) && (decide (ohs c i = 0 ∧ ohp c i = P ∧ oht c i ≠ T ∧ trh c (ohp c i) (oht c i) ≠ (ohq c i : Int)) && !fitb (c 3 7) (c 4 (ohq c i)) (c 4 Q) (ohq c i) (oht c i) Q T)
theorem gsx_i {c : cg} {W P Q T i : Nat} : gsx c W P Q T i = true ↔ gns c W P Q T i = true ∧ c (17 + 2 * W) 2 ≠ 0 := by
  unfold gsx
  rw [Bool.and_eq_true, decide_eq_true_iff]
theorem msx_i {c : cg} {P Q T i : Nat} : msx c P Q T i = true ↔ trh c P T ≠ (Q : Int) ∧ (ohs c i = 0 ∧ ohp c i = P ∧ oht c i ≠ T ∧ trh c (ohp c i) (oht c i) ≠ (ohq c i : Int)) ∧ ¬ FITP (c 3 7) (c 4 (ohq c i)) (c 4 Q) (ohq c i) (oht c i) Q T := by
  unfold msx
  rw [Bool.and_eq_true, Bool.and_eq_true, decide_eq_true_iff, decide_eq_true_iff, Bool.not_eq_true', ← fitb_i]
  cases fitb (c 3 7) (c 4 (ohq c i)) (c 4 Q) (ohq c i) (oht c i) Q T with
  | true => exact ⟨fun h => (by cases h.2.2), fun h => absurd rfl h.2.2⟩
  | false => exact ⟨fun h => ⟨h.1, h.2.1, fun e => by cases e⟩, fun h => ⟨h.1, h.2.1, rfl⟩⟩
/-- the set of those that are so, among the first k -/
def bset (f : Nat → Bool) (k m : Nat) : Prop := m < 2 ^ 16 ∧ ∀ v : Nat, m.testBit v = true ↔ v < k ∧ f v = true
theorem bset0 {f : Nat → Bool} : bset f 0 0 := ⟨by decide, fun v => ⟨fun h => (by rw [Nat.zero_testBit] at h; cases h), fun h => absurd h.1 (Nat.not_lt_zero v)⟩⟩
theorem bset_n {f : Nat → Bool} {k m : Nat} (h : bset f k m) (hf : f k = false) : bset f (k + 1) m := ⟨h.1, fun v => (h.2 v).trans ⟨fun x => ⟨by omega, x.2⟩, fun x => ⟨by
  by_cases q : v = k
  · rw [q, hf] at x; cases x.2
  · omega, x.2⟩⟩⟩
theorem bset_s {f : Nat → Bool} {k m : Nat} (h : bset f k m) (hk : k < 16) (hf : f k = true) : bset f (k + 1) (m ||| 2 ^ k) := by
  refine ⟨tblt h.1 hk, fun v => ?_⟩
  rw [tbor, Bool.or_eq_true, h.2 v, decide_eq_true_iff]
  constructor
  · rintro (x | x)
    · exact ⟨by omega, x.2⟩
    · exact ⟨by omega, by rw [← x]; exact hf⟩
  · intro x
    by_cases q : k = v
    · exact Or.inr q
    · exact Or.inl ⟨by omega, x.2⟩
theorem p16 : (2 : Nat) ^ 16 ≤ 2 ^ 30 := by decide
theorem lt16 {m : Nat} (h : m < 2 ^ 16) : m < 2 ^ 30 := Nat.lt_of_lt_of_le h p16
theorem borz {m : Nat} (h : m < 2 ^ 30) : bor (m : Int) 0 = (m : Int) := by
  rw [show (0 : Int) = ((0 : Nat) : Int) from rfl, bor_n h (by decide), Nat.or_zero]
/-- what an OATH makes VOID: of those ahead, and itself -/
def voy (c : cg) (N W P Q T i : Nat) : Bool := gsx c W P Q T i || msx c P Q T i
def von (c : cg) (N P Q T : Nat) : Bool := decide (0 < cnt (msx c P Q T) N)
section Ent
variable {sv : Nat → Int32} {L : Nat} {n : Nat} {lf : dlf} {c d : cg} {o : cg × Option cv} {np nq N W P Q T : Nat}
theorem struck_ok (hG : GD c np nq N) (h5 : np ≤ 5) (h6 : nq ≤ 6) (hN16 : N ≤ 16) (hN : c 3 9 = (N : Int)) (hW : W < nq) (hP : P < nq) (hQ : Q < np) (hT : T < 8) (h : zr sv L n 100 0 lf [] c o) (h0 : lf 0 = (4, 3)) (h1 : lf 1 = (0, (W : Int))) (h2 : lf 2 = (0, (P : Int))) (h3 : lf 3 = (0, (Q : Int))) (h4 : lf 4 = (0, (T : Int))) : ∃ m : Nat, o = (c, some (0, (m : Int))) ∧ m < 2 ^ 30 ∧ (∀ v : Nat, v < N → (m.testBit v = true ↔ voy c N W P Q T v = true)) ∧ (m.testBit N = true ↔ von c N P Q T = true) := by
  have hV := hG.hv h5 h6
  obtain ⟨⟨-, -, s0⟩, ml, -, -, -⟩ := id hG
  obtain ⟨l, lf1, hl, a0, a1, a2, a3, a4, a5, a6, a7, a8, a9, h⟩ : ∃ (l : Int) (lf1 : dlf), (l = 0 ↔ trh c P T = (Q : Int)) ∧ lf1 0 = (4, 3) ∧ lf1 1 = (0, (W : Int)) ∧ lf1 2 = (0, (P : Int)) ∧ lf1 3 = (0, (Q : Int)) ∧ lf1 4 = (0, (T : Int)) ∧ lf1 5 = (0, c (17 + 2 * W) 2) ∧ lf1 6 = (0, l) ∧ lf1 7 = (0, 0) ∧ lf1 8 = (0, 0) ∧ lf1 9 = (0, 0) ∧ zr sv L n 100 38 lf1 [] c o := by
    rcases t_stk0 (by omega) (by omega) (by omega) (by omega) rfl (show c (18 + 2 * P) T = trh c P T from rfl) h h0 h1 h2 h3 h4 with ⟨z, lf1, w⟩ | ⟨z, lf1, w⟩
    · exact ⟨1, lf1, ⟨fun e => absurd e (by decide), fun e => absurd e z⟩, w⟩
    · exact ⟨0, lf1, ⟨fun _ => z, fun _ => rfl⟩, w⟩
  refine zloop (fun k lf g => g = c ∧ k ≤ N ∧ lf 0 = (4, 3) ∧ lf 1 = (0, (W : Int)) ∧ lf 2 = (0, (P : Int)) ∧ lf 3 = (0, (Q : Int)) ∧ lf 4 = (0, (T : Int)) ∧ lf 5 = (0, c (17 + 2 * W) 2) ∧ lf 6 = (0, l) ∧ lf 9 = (0, (k : Int)) ∧ ∃ a b : Nat, lf 7 = (0, (a : Int)) ∧ lf 8 = (0, (b : Int)) ∧ bset (gsx c W P Q T) k a ∧ bset (msx c P Q T) k b) _ ?_ n 0 lf1 c ⟨rfl, by omega, a0, a1, a2, a3, a4, a5, a6, a9, 0, 0, a7, a8, bset0, bset0⟩ h
  intro n k lf g ⟨e, hk, b0, b1, b2, b3, b4, b5, b6, b9, a, b, b7, b8, ba, bb⟩ hzk
  subst e
  have h := hzk
  by_cases hlt : k < N
  · obtain ⟨v1, v2, v3, v4, v5⟩ := hV k hlt
    obtain ⟨-, l0, l1, l2, l3⟩ := (hG.2.2.2.1 k hlt).v h5 h6
    have fs := bset_s ba (show k < 16 by omega)
    have fn := bset_n (f := gsx g W P Q T) ba
    have ms := bset_s bb (show k < 16 by omega)
    have mn := bset_n (f := msx g P Q T) bb
    have sa : bor (a : Int) (bsl 1 (k : Int)) = ((a ||| 2 ^ k : Nat) : Int) := by rw [bsl1 _ (by omega), bor_n (lt16 ba.1) (Nat.pow_lt_pow_right (by decide) (by omega))]
    have sb : bor (b : Int) (bsl 1 (k : Int)) = ((b ||| 2 ^ k : Nat) : Int) := by rw [bsl1 _ (by omega), bor_n (lt16 bb.1) (Nat.pow_lt_pow_right (by decide) (by omega))]
    rcases t_stk_s (by omega) (by omega) (by omega) (by omega) v2 v3 v4 v5 (by omega) hN16 hN v1 (show g (18 + 2 * ohp g k) (oht g k) = trh g (ohp g k) (oht g k) from rfl) hlt h b0 b1 b2 b3 b4 b5 b6 b7 b8 b9 with ⟨z, lf2, y0, y1, y2, y3, y4, y5, y6, y7, y8, y9, h⟩ | ⟨z, g1, r1, kf, h⟩ | ⟨z, lf2, y0, y1, y2, y3, y4, y5, y6, y7, y8, y9, h⟩ | ⟨z, lf2, y0, y1, y2, y3, y4, y5, y6, y7, y8, y9, h⟩
    · have e1 : gsx g W P Q T k = false := bf (fun q => by
        have := gns_i.mp (gsx_i.mp q).1
        omega)
      have e2 : msx g P Q T k = false := bf (fun q => by
        obtain ⟨q1, q2, -⟩ := msx_i.mp q
        omega)
      exact Or.inr ⟨lf2, _, ⟨rfl, hlt, y0, y1, y2, y3, y4, y5, y6, by rw [y9]; exact congrArg _ (Int.add_comm _ _), a, b, y7, y8, fn e1, mn e2⟩, h⟩
    · have e1 : gsx g W P Q T k = false := bf (fun q => by
        have := gns_i.mp (gsx_i.mp q).1
        omega)
      rcases t_fit_ok v4 v5 (by omega) (by omega) rfl rfl rfl (ml _ l2) (ml _ hQ) s0 kf rfl rfl rfl rfl rfl with ⟨f1, f2⟩ | ⟨f1, f2⟩
      · obtain ⟨u1, u2⟩ := oI f2
        rw [u1, u2] at h
        have e2 : msx g P Q T k = false := bf (fun q => (msx_i.mp q).2.2 f1)
        rcases h with ⟨-, lf2, y0, y1, y2, y3, y4, y5, y6, y7, y8, y9, h⟩ | ⟨x, -⟩
        · exact Or.inr ⟨lf2, _, ⟨rfl, hlt, y0, y1, y2, y3, y4, y5, y6, by rw [y9]; exact congrArg _ (Int.add_comm _ _), a, b, y7, y8, fn e1, mn e2⟩, h⟩
        · exact absurd x (by decide)
      · obtain ⟨u1, u2⟩ := oI f2
        rw [u1, u2] at h
        have e2 : msx g P Q T k = true := msx_i.mpr ⟨fun q => z.2.2.2.1 (hl.mpr q), ⟨z.1, by omega, by omega, z.2.2.2.2⟩, f1⟩
        rcases h with ⟨x, -⟩ | ⟨-, lf2, y0, y1, y2, y3, y4, y5, y6, y7, y8, y9, h⟩
        · exact absurd rfl x
        · rw [sb] at y8
          exact Or.inr ⟨lf2, _, ⟨rfl, hlt, y0, y1, y2, y3, y4, y5, y6, by rw [y9]; exact congrArg _ (Int.add_comm _ _), a, _, y7, y8, fn e1, ms e2⟩, h⟩
    · have e1 : gsx g W P Q T k = false := bf (fun q => by
        obtain ⟨q1, q2⟩ := gsx_i.mp q
        have := gns_i.mp q1
        omega)
      have e2 : msx g P Q T k = false := bf (fun q => by
        obtain ⟨q1, q2, -⟩ := msx_i.mp q
        omega)
      rw [borz (lt16 ba.1)] at y7
      exact Or.inr ⟨lf2, _, ⟨rfl, hlt, y0, y1, y2, y3, y4, y5, y6, by rw [y9]; exact congrArg _ (Int.add_comm _ _), a, b, y7, y8, fn e1, mn e2⟩, h⟩
    · have e1 : gsx g W P Q T k = true := gsx_i.mpr ⟨gns_i.mpr (by omega), z.2.2.2.2.2⟩
      have e2 : msx g P Q T k = false := bf (fun q => by
        obtain ⟨q1, q2, -⟩ := msx_i.mp q
        omega)
      rw [sa] at y7
      exact Or.inr ⟨lf2, _, ⟨rfl, hlt, y0, y1, y2, y3, y4, y5, y6, by rw [y9]; exact congrArg _ (Int.add_comm _ _), _, b, y7, y8, fs e1, mn e2⟩, h⟩
  · have ek : k = N := by omega
    subst ek
    have ab : a ||| b < 2 ^ 16 := Nat.or_lt_two_pow ba.1 bb.1
    have hv : ∀ v : Nat, v < k → ((a ||| b).testBit v = true ↔ voy g k W P Q T v = true) := fun v hv => by
      unfold voy
      rw [Nat.testBit_or, Bool.or_eq_true, Bool.or_eq_true, ba.2 v, bb.2 v]
      exact ⟨fun x => x.imp (fun y => y.2) (fun y => y.2), fun x => x.imp (fun y => ⟨hv, y⟩) (fun y => ⟨hv, y⟩)⟩
    have nk : (a ||| b).testBit k = false := bf (fun q => by
      rw [Nat.testBit_or, Bool.or_eq_true, ba.2 k, bb.2 k] at q
      omega)
    have hb : (b : Int) ≠ 0 ↔ von g k P Q T = true := by
      unfold von
      rw [decide_eq_true_iff, cnt_pos]
      constructor
      · intro q
        obtain ⟨i, hi⟩ := Nat.exists_testBit_of_ne_zero (show b ≠ 0 by omega)
        have := (bb.2 i).mp hi
        exact ⟨i, this.1, this.2⟩
      · intro ⟨i, i1, i2⟩ q
        have := (bb.2 i).mpr ⟨i1, i2⟩
        rw [show b = 0 by omega, Nat.zero_testBit] at this
        cases this
    rcases t_stk_e (by omega) (by omega) (by omega) (by omega) hN16 hN16 hN (Nat.le_refl _) h b0 b1 b2 b3 b4 b5 b6 b7 b8 b9 with ⟨z, e⟩ | ⟨z, e⟩
    · rw [bor_n (lt16 ba.1) (lt16 bb.1), bsl1 _ (by omega), bor_n (lt16 ab) (Nat.pow_lt_pow_right (by decide) (by omega))] at e
      refine Or.inl ⟨_, e, Nat.or_lt_two_pow (lt16 ab) (Nat.pow_lt_pow_right (by decide) (by omega)), fun v hv' => ?_, ?_⟩
      · rw [tbor, Bool.or_eq_true, decide_eq_true_iff, ← hv v hv']
        exact ⟨fun x => x.resolve_right (by omega), Or.inl⟩
      · rw [tbor, Bool.or_eq_true, decide_eq_true_iff, ← hb]
        exact ⟨fun _ => z, fun _ => Or.inr rfl⟩
    · rw [bor_n (lt16 ba.1) (lt16 bb.1), borz (lt16 ab)] at e
      refine Or.inl ⟨_, e, lt16 ab, hv, ?_⟩
      rw [nk, ← hb]
      exact ⟨fun x => (by cases x), fun x => absurd z x⟩
end Ent
end
section
/-! what an OATH leaves: the class, the reference -/
def EC (c c' : cg) (N W P Q T : Nat) (fe : Int) (st : Nat → Bool) (sn : Bool) : Prop := (∀ k j : Nat, ¬ (k = 3 ∧ 8 ≤ j ∧ j ≤ 9) → (k < 17 ∨ 45 ≤ k) → c' k j = c k j) ∧ (∀ i : Nat, i < 6 → (∀ j : Nat, ¬ (i = W ∧ j = 1) → c' (17 + 2 * i) j = c (17 + 2 * i) j) ∧ ∀ t : Nat, c' (18 + 2 * i) t = c (18 + 2 * i) t) ∧ (c' (17 + 2 * W) 1 = w32 (c (17 + 2 * W) 1 - fe) ∧ c' 3 8 = w32 (c 3 8 + fe) ∧ c' 3 9 = ((N + 1 : Nat) : Int)) ∧ (∀ i : Nat, i < N → (∀ j : Nat, j ≠ 5 → c' (29 + i) j = c (29 + i) j) ∧ c' (29 + i) 5 = cond (st i) 1 (c (29 + i) 5)) ∧ (c' (29 + N) 0 = (W : Int) ∧ c' (29 + N) 1 = (P : Int) ∧ c' (29 + N) 2 = (Q : Int) ∧ c' (29 + N) 3 = (T : Int) ∧ c' (29 + N) 4 = fe ∧ c' (29 + N) 5 = cond sn 1 0 ∧ c' (29 + N) 6 = 0)
def EM (d d' : cg) (N W P Q T : Nat) (fe : Int) (st : Nat → Bool) (sn : Bool) : Prop := (∀ k j : Nat, k ≠ 254 → d' k j = d k j) ∧ (∀ j : Nat, j ≠ 2 → j ≠ 6 → j ≠ 15 + 6 * W → ¬ (99 + 8 * N ≤ j ∧ j ≤ 105 + 8 * N) → (∀ i : Nat, i < N → j ≠ 104 + 8 * i) → d' 254 j = d 254 j) ∧ (d' 254 (15 + 6 * W) = w32 (d 254 (15 + 6 * W) - fe) ∧ d' 254 6 = w32 (d 254 6 + fe) ∧ d' 254 2 = ((N + 1 : Nat) : Int)) ∧ (∀ i : Nat, i < N → d' 254 (104 + 8 * i) = cond (st i) 1 (d 254 (104 + 8 * i))) ∧ (d' 254 (99 + 8 * N) = (W : Int) ∧ d' 254 (100 + 8 * N) = (P : Int) ∧ d' 254 (101 + 8 * N) = (Q : Int) ∧ d' 254 (102 + 8 * N) = (T : Int) ∧ d' 254 (103 + 8 * N) = fe ∧ d' 254 (104 + 8 * N) = cond sn 1 0 ∧ d' 254 (105 + 8 * N) = 0)
theorem ce {c c' d d' : cg} {np nq N W P Q T : Nat} {fe : Int} {st : Nat → Bool} {sn : Bool} (h : CT c d np nq N) (hN : N ≤ 15) (hW : W < nq) (hc : EC c c' N W P Q T fe st sn) (hd : EM d d' N W P Q T fe st sn) : CT c' d' np nq (N + 1) := by
  obtain ⟨⟨a1, a2, a3⟩, ⟨b1, b2, b3⟩, ⟨c1, c2, c3⟩, ⟨d1, d2, d3, d4⟩, h5, h6, h7⟩ := h
  obtain ⟨e1, e2, ⟨e3, e4, e5⟩, e6, e7, e8, e9, e10, e11, e12, e13⟩ := hc
  obtain ⟨f1, f2, ⟨f3, f4, f5⟩, f6, f7, f8, f9, f10, f11, f12, f13⟩ := hd
  have D : ∀ j : Nat, j ≠ 2 → j ≠ 6 → j ≠ 15 + 6 * W → j < 99 → d' 254 j = d 254 j := fun j i1 i2 i3 i4 => f2 j i1 i2 i3 (by omega) (fun i hi => by omega)
  have C : ∀ k j : Nat, ¬ (k = 3 ∧ 8 ≤ j ∧ j ≤ 9) → k < 17 → c' k j = c k j := fun k j i1 i2 => e1 k j i1 (Or.inl i2)
  refine ⟨⟨a1, a2, by omega⟩, ⟨by rw [C _ _ (by omega) (by omega)]; exact b1, by rw [C _ _ (by omega) (by omega)]; exact b2, e5⟩, ⟨by rw [D _ (by omega) (by omega) (by omega) (by omega)]; exact c1, by rw [D _ (by omega) (by omega) (by omega) (by omega)]; exact c2, f5⟩, ⟨by rw [C _ _ (by omega) (by omega), D _ (by omega) (by omega) (by omega) (by omega)]; exact d1, by rw [C _ _ (by omega) (by omega), D _ (by omega) (by omega) (by omega) (by omega)]; exact d2, by rw [C _ _ (by omega) (by omega), D _ (by omega) (by omega) (by omega) (by omega)]; exact d3, by rw [e4, f4, d4]⟩, fun i hi => by rw [C _ _ (by omega) (by omega), D _ (by omega) (by omega) (by omega) (by omega)]; exact h5 i hi, fun i hi => ?_, fun k hk j hj => ?_⟩
  · obtain ⟨⟨p1, p2, p3, p4, p5⟩, p6⟩ := h6 i hi
    obtain ⟨g1, g2⟩ := e2 i (by omega)
    refine ⟨⟨?_, ?_, ?_, ?_, ?_⟩, fun t ht => ?_⟩
    · by_cases e : i = W
      · rw [e, f3, e3, ← e, p1]
      · rw [D _ (by omega) (by omega) (by omega) (by omega), g1 1 (by omega)]; exact p1
    · rw [D _ (by omega) (by omega) (by omega) (by omega), g1 2 (by omega)]; exact p2
    · rw [D _ (by omega) (by omega) (by omega) (by omega), g1 3 (by omega)]; exact p3
    · rw [D _ (by omega) (by omega) (by omega) (by omega), g1 4 (by omega)]; exact p4
    · rw [D _ (by omega) (by omega) (by omega) (by omega), g1 5 (by omega)]; exact p5
    · unfold trh
      rw [D _ (by omega) (by omega) (by omega) (by omega), g2 t]; exact p6 t ht
  · by_cases e : k = N
    · subst e
      rcases (show j = 0 ∨ j = 1 ∨ j = 2 ∨ j = 3 ∨ j = 4 ∨ j = 5 ∨ j = 6 from by omega) with e | e | e | e | e | e | e <;> subst e
      · rw [e7, show 99 + 8 * k + 0 = 99 + 8 * k by omega, f7]
      · rw [e8, show 99 + 8 * k + 1 = 100 + 8 * k by omega, f8]
      · rw [e9, show 99 + 8 * k + 2 = 101 + 8 * k by omega, f9]
      · rw [e10, show 99 + 8 * k + 3 = 102 + 8 * k by omega, f10]
      · rw [e11, show 99 + 8 * k + 4 = 103 + 8 * k by omega, f11]
      · rw [e12, show 99 + 8 * k + 5 = 104 + 8 * k by omega, f12]
      · rw [e13, show 99 + 8 * k + 6 = 105 + 8 * k by omega, f13]
    · obtain ⟨g1, g2⟩ := e6 k (by omega)
      have q := h7 k (by omega) j hj
      by_cases e' : j = 5
      · subst e'
        rw [show 99 + 8 * k + 5 = 104 + 8 * k by omega] at q ⊢
        rw [g2, f6 k (by omega), q]
      · rw [g1 j e', f2 _ (by omega) (by omega) (by omega) (by omega) (fun i hi => by omega)]
        exact q
theorem gde {c c' : cg} {np nq N W P Q T : Nat} {fe : Int} {st : Nat → Bool} {sn : Bool} (h5 : np ≤ 5) (h6 : nq ≤ 6) (hG : GD c np nq N) (hN : N ≤ 15) (hW : W < nq) (hP : P < nq) (hQ : Q < np) (hT : T < 8) (hf : 0 ≤ fe ∧ fe ≤ 2000 ∧ fe ≤ c (17 + 2 * W) 1) (hs : ∀ k : Nat, k < N → spk c W P T k = false) (hc : EC c c' N W P Q T fe st sn) : GD c' np nq (N + 1) := by
  obtain ⟨⟨b1, b2, b3⟩, b4, b5, b6, b7⟩ := hG
  obtain ⟨e1, e2, ⟨e3, e4, e5⟩, e6, e7, e8, e9, e10, e11, e12, e13⟩ := hc
  have C : ∀ k j : Nat, ¬ (k = 3 ∧ 8 ≤ j ∧ j ≤ 9) → k < 17 → c' k j = c k j := fun k j i1 i2 => e1 k j i1 (Or.inl i2)
  have o : ∀ i : Nat, i < N → ohw c' i = ohw c i ∧ ohp c' i = ohp c i ∧ ohq c' i = ohq c i ∧ oht c' i = oht c i := fun i hi => by
    obtain ⟨g1, -⟩ := e6 i hi
    unfold ohw ohp ohq oht
    rw [g1 0 (by decide), g1 1 (by decide), g1 2 (by decide), g1 3 (by decide)]
    exact ⟨rfl, rfl, rfl, rfl⟩
  have oN : ohw c' N = W ∧ ohp c' N = P ∧ ohq c' N = Q ∧ oht c' N = T := by
    unfold ohw ohp ohq oht
    rw [e7, e8, e9, e10]
    exact ⟨rfl, rfl, rfl, rfl⟩
  have hst : ∀ i : Nat, i < N → ohs c' i = 0 → ohs c i = 0 := fun i hi e => by
    have g2 := (e6 i hi).2
    unfold ohs at *
    rw [g2] at e
    cases hb : st i with
    | true => rw [hb] at e; have e : (1 : Int) = 0 := e; omega
    | false => rw [hb] at e; exact e
  have hr : cnt (rfd c') (N + 1) = cnt (rfd c) N := by
    rw [cnt_n (show rfd c' N = false from decide_eq_false (by rw [e13]; exact fun q => q rfl))]
    exact cntr (fun i hi => (e6 i hi).1 6 (by decide))
  have tr : ∀ p t : Nat, p < 6 → trh c' p t = trh c p t := fun p t hp => (e2 p hp).2 t
  refine ⟨⟨by rw [C _ _ (by omega) (by omega)]; exact b1, by rw [C _ _ (by omega) (by omega)]; exact b2, by rw [C _ _ (by omega) (by omega)]; exact b3⟩, fun i hi => by rw [C _ _ (by omega) (by omega)]; exact b4 i hi, fun i hi => ?_, fun k hk => ?_, fun i k hi hk => ?_⟩
  · obtain ⟨p1, p2, p3, p4, p5, p6⟩ := b5 i hi
    obtain ⟨g1, g2⟩ := e2 i (by omega)
    refine ⟨by rw [g1 2 (by omega)]; exact p1, by rw [g1 3 (by omega)]; exact p2, by rw [g1 4 (by omega)]; exact p3, by rw [g1 5 (by omega)]; exact p4, ?_, fun t ht => by rw [tr i t (by omega)]; exact p6 t ht⟩
    rw [hr]
    have cl := cnt_le (f := rfd c) N
    by_cases e : i = W
    · rw [e] at p5 ⊢
      rw [e3, w32_id (by omega) (by omega)]
      omega
    · rw [g1 1 (by omega)]; exact p5
  · by_cases e : k = N
    · subst e
      refine ⟨by rw [e7]; omega, by rw [e8]; omega, by rw [e9]; omega, by rw [e10]; omega, by rw [e11]; omega, ?_, Or.inl e13, fun _ q => absurd e13 q⟩
      rw [e12]
      cases sn
      · exact Or.inl rfl
      · exact Or.inr (Or.inl rfl)
    · obtain ⟨g1, g2⟩ := e6 k (by omega)
      obtain ⟨p0, p1, p2, p3, p4, p5, p6, p7⟩ := b6 k (by omega)
      obtain ⟨o0, o1, o2, o3⟩ := o k (by omega)
      obtain ⟨-, l0, l1, l2, l3⟩ := (b6 k (by omega)).v h5 h6
      refine ⟨by rw [g1 0 (by decide)]; exact p0, by rw [g1 1 (by decide)]; exact p1, by rw [g1 2 (by decide)]; exact p2, by rw [g1 3 (by decide)]; exact p3, by rw [g1 4 (by decide)]; exact p4, ?_, by rw [g1 6 (by decide)]; exact p6, fun x y => ?_⟩
      · rw [g2]
        cases st k
        · exact p5
        · exact Or.inr (Or.inl rfl)
      · rw [g1 6 (by decide)] at y
        rw [o1, o3, o2, tr _ _ (by omega)]
        exact p7 (hst k (by omega) x) y
  · intro x y
    obtain ⟨o0, o1, o2, o3⟩ := o i (by omega)
    by_cases e : k = N
    · subst e
      rw [o1, o3, o0, oN.1, oN.2.1, oN.2.2.2]
      intro z1 z2 z3
      have := hs i hi
      rw [spk_i.mpr ⟨hst i hi x, z1, z2, z3⟩] at this
      cases this
    · obtain ⟨q0, q1, q2, q3⟩ := o k (by omega)
      rw [o1, q1, o3, q3, o0, q0]
      exact b7 i k hi (by omega) (hst i (by omega) x) (hst k (by omega) y)
section Ent2
variable {sv : Nat → Int32} {L : Nat} {n : Nat} {lf : dlf} {c d : cg} {o : cg × Option cv} {np nq N W P Q T : Nat} {fe : Int}
theorem enter_ok (hG : GD c np nq N) (h5 : np ≤ 5) (h6 : nq ≤ 6) (hN16 : N ≤ 15) (hN : c 3 9 = (N : Int)) (hW : W < nq) (hP : P < nq) (hQ : Q < np) (hT : T < 8) (h : zr sv L n 103 0 lf [] c o) (h0 : lf 0 = (4, 3)) (h1 : lf 1 = (0, (W : Int))) (h2 : lf 2 = (0, (P : Int))) (h3 : lf 3 = (0, (Q : Int))) (h4 : lf 4 = (0, (T : Int))) (hfe : lf 5 = (0, fe)) : ∃ c', o = (c', some (0, (N : Int))) ∧ EC c c' N W P Q T fe (voy c N W P Q T) (von c N P Q T) := by
  obtain ⟨g1, r1, k1, lf1, a0, a1, a2, a3, a4, a5, a6, h⟩ := t_ent0 (by omega) (by omega) (by omega) (by omega) hN16 hN h h0 h1 h2 h3 h4 hfe
  obtain ⟨m, hm, m1, m2, m3⟩ := struck_ok hG h5 h6 (by omega) hN hW hP hQ hT k1 rfl rfl rfl rfl rfl
  obtain ⟨u1, u2⟩ := oI hm
  rw [u1] at h
  rw [u2] at a6
  obtain ⟨lf2, b0, b6, b8, h⟩ := t_ent25 (by omega) (by omega) (by omega) (by omega) hN16 hN rfl h a0 a1 a2 a3 a4 a5 a6
  have C0 : ∀ k j : Nat, k ≠ 29 + N → ¬ (k = 17 + 2 * W ∧ j = 1) → ¬ (k = 3 ∧ 8 ≤ j ∧ j ≤ 9) → cup (cup (cup (cup (cup (cup (cup (cup (cup (cup (cup c (29 + N) 0 ((W : Int))) (29 + N) 1 ((P : Int))) (29 + N) 2 ((Q : Int))) (29 + N) 3 ((T : Int))) (29 + N) 4 fe) (29 + N) 5 0) (29 + N) 6 0) (29 + N) 7 0) (17 + 2 * W) 1 (w32 (c (17 + 2 * W) 1 - fe))) 3 8 (w32 ((c 3 8) + fe))) 3 9 (1 + (N : Int)) k j = c k j := fun k j i1 i2 i3 => by
    rw [cup_ne (by omega), cup_ne (by omega), cup_ne i2, cup_ne (by omega), cup_ne (by omega), cup_ne (by omega), cup_ne (by omega), cup_ne (by omega), cup_ne (by omega), cup_ne (by omega), cup_ne (by omega)]
  have N0 : ∀ j : Nat, cup (cup (cup (cup (cup (cup (cup (cup (cup (cup (cup c (29 + N) 0 ((W : Int))) (29 + N) 1 ((P : Int))) (29 + N) 2 ((Q : Int))) (29 + N) 3 ((T : Int))) (29 + N) 4 fe) (29 + N) 5 0) (29 + N) 6 0) (29 + N) 7 0) (17 + 2 * W) 1 (w32 (c (17 + 2 * W) 1 - fe))) 3 8 (w32 ((c 3 8) + fe))) 3 9 (1 + (N : Int)) (29 + N) j = cup (cup (cup (cup (cup (cup (cup (cup c (29 + N) 0 ((W : Int))) (29 + N) 1 ((P : Int))) (29 + N) 2 ((Q : Int))) (29 + N) 3 ((T : Int))) (29 + N) 4 fe) (29 + N) 5 0) (29 + N) 6 0) (29 + N) 7 0 (29 + N) j := fun j => by
    rw [cup_ne (by omega), cup_ne (by omega), cup_ne (by omega)]
  have n0 := (N0 0).trans (by rw [cup_ne (by omega), cup_ne (by omega), cup_ne (by omega), cup_ne (by omega), cup_ne (by omega), cup_ne (by omega), cup_ne (by omega), cup_at] : _ = (W : Int))
  have n1 := (N0 1).trans (by rw [cup_ne (by omega), cup_ne (by omega), cup_ne (by omega), cup_ne (by omega), cup_ne (by omega), cup_ne (by omega), cup_at] : _ = (P : Int))
  have n2 := (N0 2).trans (by rw [cup_ne (by omega), cup_ne (by omega), cup_ne (by omega), cup_ne (by omega), cup_ne (by omega), cup_at] : _ = (Q : Int))
  have n3 := (N0 3).trans (by rw [cup_ne (by omega), cup_ne (by omega), cup_ne (by omega), cup_ne (by omega), cup_at] : _ = (T : Int))
  have n4 := (N0 4).trans (by rw [cup_ne (by omega), cup_ne (by omega), cup_ne (by omega), cup_at] : _ = fe)
  have n5 := (N0 5).trans (by rw [cup_ne (by omega), cup_ne (by omega), cup_at] : _ = (0 : Int))
  have n6 := (N0 6).trans (by rw [cup_ne (by omega), cup_at] : _ = (0 : Int))
  have n9 : cup (cup (cup (cup (cup (cup (cup (cup (cup (cup (cup c (29 + N) 0 ((W : Int))) (29 + N) 1 ((P : Int))) (29 + N) 2 ((Q : Int))) (29 + N) 3 ((T : Int))) (29 + N) 4 fe) (29 + N) 5 0) (29 + N) 6 0) (29 + N) 7 0) (17 + 2 * W) 1 (w32 (c (17 + 2 * W) 1 - fe))) 3 8 (w32 ((c 3 8) + fe))) 3 9 (1 + (N : Int)) 3 9 = ((N + 1 : Nat) : Int) := by rw [cup_at]; omega
  have n8 : cup (cup (cup (cup (cup (cup (cup (cup (cup (cup (cup c (29 + N) 0 ((W : Int))) (29 + N) 1 ((P : Int))) (29 + N) 2 ((Q : Int))) (29 + N) 3 ((T : Int))) (29 + N) 4 fe) (29 + N) 5 0) (29 + N) 6 0) (29 + N) 7 0) (17 + 2 * W) 1 (w32 (c (17 + 2 * W) 1 - fe))) 3 8 (w32 ((c 3 8) + fe))) 3 9 (1 + (N : Int)) 3 8 = w32 (c 3 8 + fe) := by rw [cup_ne (by omega), cup_at]
  have np1 : cup (cup (cup (cup (cup (cup (cup (cup (cup (cup (cup c (29 + N) 0 ((W : Int))) (29 + N) 1 ((P : Int))) (29 + N) 2 ((Q : Int))) (29 + N) 3 ((T : Int))) (29 + N) 4 fe) (29 + N) 5 0) (29 + N) 6 0) (29 + N) 7 0) (17 + 2 * W) 1 (w32 (c (17 + 2 * W) 1 - fe))) 3 8 (w32 ((c 3 8) + fe))) 3 9 (1 + (N : Int)) (17 + 2 * W) 1 = w32 (c (17 + 2 * W) 1 - fe) := by rw [cup_ne (by omega), cup_ne (by omega), cup_at]
  generalize cup (cup (cup (cup (cup (cup (cup (cup (cup (cup (cup c (29 + N) 0 ((W : Int))) (29 + N) 1 ((P : Int))) (29 + N) 2 ((Q : Int))) (29 + N) 3 ((T : Int))) (29 + N) 4 fe) (29 + N) 5 0) (29 + N) 6 0) (29 + N) 7 0) (17 + 2 * W) 1 (w32 (c (17 + 2 * W) 1 - fe))) 3 8 (w32 ((c 3 8) + fe))) 3 9 (1 + (N : Int)) = c1 at h C0 n0 n1 n2 n3 n4 n5 n6 n8 n9 np1
  clear N0
  refine zloop (fun k lf g => k ≤ N + 1 ∧ lf 0 = (4, 3) ∧ lf 6 = (0, (m : Int)) ∧ lf 8 = (0, (k : Int)) ∧ (∀ i j : Nat, ¬ (29 ≤ i ∧ i < 29 + k ∧ j = 5) → g i j = c1 i j) ∧ ∀ i : Nat, i < k → g (29 + i) 5 = cond (m.testBit i) 1 (c1 (29 + i) 5)) _ ?_ n 0 lf2 c1 ⟨by omega, b0, b6, b8, fun _ _ _ => rfl, fun i hi => absurd hi (Nat.not_lt_zero i)⟩ h
  intro n k lf g ⟨hk, d0, d6, d8, e1, e2⟩ h
  have gN : g 3 9 = ((N + 1 : Nat) : Int) := by rw [e1 3 9 (by omega)]; exact n9
  by_cases hlt : k < N + 1
  · have hb := bbit (a := m) (s := k) m1 (by omega)
    rcases t_ent_s (by omega) (by omega) gN hlt h d0 d6 d8 with ⟨z, lf3, y0, y6, y8, h⟩ | ⟨z, lf3, y0, y6, y8, h⟩
    · rw [hb] at z
      have e : m.testBit k = false := bf (fun q => by rw [q] at z; exact absurd z (by decide))
      refine Or.inr ⟨lf3, g, ⟨by omega, y0, y6, by rw [y8]; exact congrArg _ (Int.add_comm _ _), fun i j i1 => e1 i j (by omega), fun i hi => ?_⟩, h⟩
      by_cases q : i = k
      · rw [q, e]; exact e1 _ _ (by omega)
      · exact e2 i (by omega)
    · rw [hb] at z
      have e : m.testBit k = true := by
        cases hq : m.testBit k with
        | true => rfl
        | false => rw [hq] at z; exact absurd rfl z
      refine Or.inr ⟨lf3, _, ⟨by omega, y0, y6, by rw [y8]; exact congrArg _ (Int.add_comm _ _), fun i j i1 => by rw [cup_ne (by omega)]; exact e1 i j (by omega), fun i hi => ?_⟩, h⟩
      by_cases q : i = k
      · rw [q, e, cup_at]; rfl
      · rw [cup_ne (by omega)]; exact e2 i (by omega)
  · have ek : k = N + 1 := by omega
    subst ek
    refine Or.inl ⟨g, by rw [t_ent_e (by omega) (by omega) gN (Nat.le_refl _) h d0 d6 d8]; exact congrArg (fun z => (g, some ((0 : Nat), z))) (by omega), ⟨fun i j i1 i2 => by rw [e1 i j (by omega)]; exact C0 i j (by omega) (by omega) i1, fun i hi => ⟨fun j hj => by rw [e1 _ _ (by omega)]; exact C0 _ _ (by omega) (by omega) (by omega), fun t => by rw [e1 _ _ (by omega)]; exact C0 _ _ (by omega) (by omega) (by omega)⟩, ⟨by rw [e1 _ _ (by omega)]; exact np1, by rw [e1 _ _ (by omega)]; exact n8, gN⟩, fun i hi => ⟨fun j hj => by rw [e1 _ _ (by omega)]; exact C0 _ _ (by omega) (by omega) (by omega), ?_⟩, by rw [e1 _ _ (by omega)]; exact n0, by rw [e1 _ _ (by omega)]; exact n1, by rw [e1 _ _ (by omega)]; exact n2, by rw [e1 _ _ (by omega)]; exact n3, by rw [e1 _ _ (by omega)]; exact n4, ?_, by rw [e1 _ _ (by omega)]; exact n6⟩⟩
    · rw [e2 i (by omega), C0 _ _ (by omega) (by omega) (by omega), show m.testBit i = voy c N W P Q T i from Bool.eq_iff_iff.mpr (m2 i hi)]
    · rw [e2 N (by omega), n5, show m.testBit N = von c N P Q T from Bool.eq_iff_iff.mpr m3]
end Ent2
section Ent3
variable {sv : Nat → Int32} {L : Nat} {n : Nat} {lf : dlf} {c d : cg} {o : cg × Option cv} {np nq N W P Q T : Nat}
/-- the OATHS ahead, as they are while an OATH is entered: the state apart -/
theorem om_st {c d g : cg} {N : Nat} {s : Int} {k : Nat} (hR : OHR c d N) (hk : k < N) (h : ∀ j : Nat, 99 ≤ j → j < 99 + 8 * N → (∀ i : Nat, i < N → j ≠ 104 + 8 * i) → g 254 j = d 254 j) (hs : g 254 (104 + 8 * k) = s) : OHM g k (ohw c k) (ohp c k) (ohq c k) (oht c k) (c (29 + k) 4) s (c (29 + k) 6) := by
  obtain ⟨a0, a1, a2, a3, a4, a5, a6⟩ := hR k hk
  exact ⟨by rw [h _ (by omega) (by omega) (fun i hi => by omega)]; exact a0, by rw [h _ (by omega) (by omega) (fun i hi => by omega)]; exact a1, by rw [h _ (by omega) (by omega) (fun i hi => by omega)]; exact a2, by rw [h _ (by omega) (by omega) (fun i hi => by omega)]; exact a3, by rw [h _ (by omega) (by omega) (fun i hi => by omega)]; exact a4, hs, by rw [h _ (by omega) (by omega) (fun i hi => by omega)]; exact a6⟩
/-- what the reference's cells are, as it goes on -/
def ESw (d g : cg) (N W P Q T : Nat) (fe : Int) (st : Nat → Bool) : Prop := EM d g N W P Q T fe st false
theorem EM.void {d g : cg} {N W P Q T k : Nat} {fe : Int} {st st' : Nat → Bool} (h : EM d g N W P Q T fe st false) (hk : k < N) (hW : W ≤ 5) (h1 : st' k = true) (h2 : ∀ i : Nat, i ≠ k → st' i = st i) : EM d (cup g 254 (104 + 8 * k) 1) N W P Q T fe st' false := by
  obtain ⟨f1, f2, ⟨f3, f4, f5⟩, f6, f7, f8, f9, f10, f11, f12, f13⟩ := h
  have D : ∀ j : Nat, j ≠ 104 + 8 * k → cup g 254 (104 + 8 * k) 1 254 j = g 254 j := fun j hj => cup_ne (by omega)
  refine ⟨fun x y hx => by rw [cup_ne (by omega)]; exact f1 x y hx, fun j i1 i2 i3 i4 i5 => by rw [D _ (i5 k hk)]; exact f2 j i1 i2 i3 i4 i5, ⟨by rw [D _ (by omega)]; exact f3, by rw [D _ (by omega)]; exact f4, by rw [D _ (by omega)]; exact f5⟩, fun i hi => ?_, by rw [D _ (by omega)]; exact f7, by rw [D _ (by omega)]; exact f8, by rw [D _ (by omega)]; exact f9, by rw [D _ (by omega)]; exact f10, by rw [D _ (by omega)]; exact f11, by rw [D _ (by omega)]; exact f12, by rw [D _ (by omega)]; exact f13⟩
  by_cases e : i = k
  · rw [e, cup_at, h1]; rfl
  · rw [D _ (by omega), h2 i e]; exact f6 i hi
theorem EM.st {d g : cg} {N W P Q T : Nat} {fe : Int} {st st' : Nat → Bool} {sn : Bool} (h : EM d g N W P Q T fe st sn) (e : ∀ i : Nat, i < N → st' i = st i) : EM d g N W P Q T fe st' sn := by
  obtain ⟨f1, f2, f3, f6, f7⟩ := h
  exact ⟨f1, f2, f3, fun i hi => by rw [e i hi]; exact f6 i hi, f7⟩
theorem swears_ok (hC : CT c d np nq N) (hG : GD c np nq N) (hN15 : N ≤ 15) (hW : W < nq) (hP : P < nq) (hQ : Q < np) (hT : T < 8) (h : zr sv L n 228 0 lf [] d o) (h0 : lf 0 = (4, 253)) (h1 : lf 1 = (0, (W : Int))) (h2 : lf 2 = (0, (P : Int))) (h3 : lf 3 = (0, (Q : Int))) (h4 : lf 4 = (0, (T : Int))) : ∃ d', o = (d', none) ∧ EM d d' N W P Q T (fees c N W P Q T) (voy c N W P Q T) (von c N P Q T) := by
  obtain ⟨⟨h5, h6, -⟩, ⟨-, -, cN⟩, ⟨-, -, dN⟩, ⟨d3, d4, d5, d6⟩, hm, hS, -⟩ := id hC
  have hV := hG.hv h5 h6
  have hR := hC.hr hG
  obtain ⟨⟨-, -, s0⟩, ml, gp, go, hU⟩ := id hG
  obtain ⟨g1, r1, k1, lf1, a0, a1, a2, a3, a4, a5, a6, a7, h⟩ := m_swr0 (by omega) (by omega) (by omega) (by omega) hN15 dN h h0 h1 h2 h3 h4
  obtain ⟨u1, u2⟩ := oI (m_fee_ok (nq := nq) (by omega) (by omega) (by omega) (by omega) (by omega) dN hV hR hU hS hW hP ⟨d3, d4⟩ k1 rfl rfl rfl rfl rfl)
  rw [u1] at h
  rw [u2] at a7
  generalize fees c N W P Q T = fe at a7
  have hm1 := (hS W hW).1
  have pu : d 254 (15 + 6 * W) = c (17 + 2 * W) 1 := hm1.1
  -- behind the writing
  have E0 : EM d (cup (cup (cup (cup (cup (cup (cup (cup (cup (cup d 254 (99 + 8 * N) ((W : Int))) 254 (100 + 8 * N) ((P : Int))) 254 (101 + 8 * N) ((Q : Int))) 254 (102 + 8 * N) ((T : Int))) 254 (103 + 8 * N) fe) 254 (104 + 8 * N) 0) 254 (105 + 8 * N) 0) 254 (15 + 6 * W) (w32 (c (17 + 2 * W) 1 - fe))) 254 6 (w32 ((d 254 6) + fe))) 254 2 (1 + (N : Int))) N W P Q T fe (fun _ => false) false := by
    refine ⟨fun k j hk => by rw [cup_ne (by omega), cup_ne (by omega), cup_ne (by omega), cup_ne (by omega), cup_ne (by omega), cup_ne (by omega), cup_ne (by omega), cup_ne (by omega), cup_ne (by omega), cup_ne (by omega)], fun j i1 i2 i3 i4 _ => by rw [cup_ne (by omega), cup_ne (by omega), cup_ne (by omega), cup_ne (by omega), cup_ne (by omega), cup_ne (by omega), cup_ne (by omega), cup_ne (by omega), cup_ne (by omega), cup_ne (by omega)], ⟨by rw [cup_ne (by omega), cup_ne (by omega), cup_at, pu], by rw [cup_ne (by omega), cup_at], by rw [cup_at]; omega⟩, fun i hi => ?_, ?_, ?_, ?_, ?_, ?_, ?_, ?_⟩
    · show _ = d 254 (104 + 8 * i)
      rw [cup_ne (by omega), cup_ne (by omega), cup_ne (by omega), cup_ne (by omega), cup_ne (by omega), cup_ne (by omega), cup_ne (by omega), cup_ne (by omega), cup_ne (by omega), cup_ne (by omega)]
    · rw [cup_ne (by omega), cup_ne (by omega), cup_ne (by omega), cup_ne (by omega), cup_ne (by omega), cup_ne (by omega), cup_ne (by omega), cup_ne (by omega), cup_ne (by omega), cup_at]
    · rw [cup_ne (by omega), cup_ne (by omega), cup_ne (by omega), cup_ne (by omega), cup_ne (by omega), cup_ne (by omega), cup_ne (by omega), cup_ne (by omega), cup_at]
    · rw [cup_ne (by omega), cup_ne (by omega), cup_ne (by omega), cup_ne (by omega), cup_ne (by omega), cup_ne (by omega), cup_ne (by omega), cup_at]
    · rw [cup_ne (by omega), cup_ne (by omega), cup_ne (by omega), cup_ne (by omega), cup_ne (by omega), cup_ne (by omega), cup_at]
    · rw [cup_ne (by omega), cup_ne (by omega), cup_ne (by omega), cup_ne (by omega), cup_ne (by omega), cup_at]
    · show _ = (0 : Int)
      rw [cup_ne (by omega), cup_ne (by omega), cup_ne (by omega), cup_ne (by omega), cup_at]
    · rw [cup_ne (by omega), cup_ne (by omega), cup_ne (by omega), cup_at]
  have chv : c (17 + 2 * W) 2 = 0 ∨ c (17 + 2 * W) 2 = 1 := (gp W hW).1
  -- what GAINSAYs it
  have s1 : ∃ n lf g, lf 0 = (4, 253) ∧ lf 2 = (0, (P : Int)) ∧ lf 4 = (0, (T : Int)) ∧ lf 5 = (0, (N : Int)) ∧ EM d g N W P Q T fe (gsx c W P Q T) false ∧ zr sv L n 228 202 lf [] g o := by
    rcases m_swr26 (by omega) (by omega) (by omega) (by omega) hN15 dN hm1 h a0 a1 a2 a3 a4 a5 a6 a7 with ⟨z, lf2, b0, b2, b4, b5, h⟩ | ⟨z, lf2, b0, b1, b2, b3, b4, b5, b8, h⟩
    · exact ⟨n, lf2, _, b0, b2, b4, b5, E0.st (fun i _ => bf (fun q => by have := (gsx_i.mp q).2; omega)), h⟩
    · generalize cup (cup (cup (cup (cup (cup (cup (cup (cup (cup d 254 (99 + 8 * N) ((W : Int))) 254 (100 + 8 * N) ((P : Int))) 254 (101 + 8 * N) ((Q : Int))) 254 (102 + 8 * N) ((T : Int))) 254 (103 + 8 * N) fe) 254 (104 + 8 * N) 0) 254 (105 + 8 * N) 0) 254 (15 + 6 * W) (w32 (c (17 + 2 * W) 1 - fe))) 254 6 (w32 ((d 254 6) + fe))) 254 2 (1 + (N : Int)) = g0 at h E0
      refine zloop (fun k lf g => k ≤ N ∧ lf 0 = (4, 253) ∧ lf 1 = (0, (W : Int)) ∧ lf 2 = (0, (P : Int)) ∧ lf 3 = (0, (Q : Int)) ∧ lf 4 = (0, (T : Int)) ∧ lf 5 = (0, (N : Int)) ∧ lf 8 = (0, (k : Int)) ∧ EM d g N W P Q T fe (fun i => gsx c W P Q T i && decide (i < k)) false) _ ?_ n 0 lf2 g0 ⟨by omega, b0, b1, b2, b3, b4, b5, b8, E0.st (fun i _ => by rw [show decide (i < 0) = false from decide_eq_false (Nat.not_lt_zero i), Bool.and_false])⟩ h
      intro n k lf g ⟨hk, c0, c1, c2, c3, c4, c5, c8, hE⟩ h
      by_cases hlt : k < N
      · obtain ⟨v1, v2, v3, v4, v5⟩ := hV k hlt
        have sk : g 254 (104 + 8 * k) = ohs c k := by
          rw [hE.2.2.2.1 k hlt]
          dsimp only
          rw [show decide (k < k) = false from decide_eq_false (Nat.lt_irrefl k), Bool.and_false]
          exact (hR k hlt).2.2.2.2.2.1
        have om := om_st hR hlt (fun j i1 i2 i3 => hE.2.1 j (by omega) (by omega) (by omega) (by omega) i3) sk
        have hst : ∀ i : Nat, i ≠ k → (gsx c W P Q T i && decide (i < k + 1)) = (gsx c W P Q T i && decide (i < k)) := fun i hi => by
          by_cases q : i < k
          · rw [decide_eq_true q, decide_eq_true (show i < k + 1 by omega)]
          · rw [decide_eq_false q, decide_eq_false (show ¬ i < k + 1 by omega)]
        rcases m_swr151s (by omega) (by omega) (by omega) (by omega) v2 v3 v4 v5 (by omega) hN15 om hlt h c0 c1 c2 c3 c4 c5 c8 with ⟨y, lf3, w0, w1, w2, w3, w4, w5, w8, h⟩ | ⟨y, lf3, w0, w1, w2, w3, w4, w5, w8, h⟩
        · have hf : gsx c W P Q T k = false := bf (fun q => by
            have := gns_i.mp (gsx_i.mp q).1
            omega)
          exact Or.inr ⟨lf3, g, ⟨hlt, w0, w1, w2, w3, w4, w5, by rw [w8]; exact congrArg _ (Int.add_comm _ _), hE.st (fun i _ => by
            by_cases q : i = k
            · rw [q, hf, Bool.false_and, Bool.false_and]
            · exact hst i q)⟩, h⟩
        · have hf : gsx c W P Q T k = true := gsx_i.mpr ⟨gns_i.mpr (by omega), by omega⟩
          exact Or.inr ⟨lf3, _, ⟨hlt, w0, w1, w2, w3, w4, w5, by rw [w8]; exact congrArg _ (Int.add_comm _ _), hE.void hlt (by omega) (by rw [hf, decide_eq_true (show k < k + 1 by omega)]; rfl) hst⟩, h⟩
      · have ek : k = N := by omega
        subst ek
        obtain ⟨lf3, w0, w2, w4, w5, h⟩ := m_swr151e (by omega) (by omega) (by omega) (by omega) hN15 hN15 (Nat.le_refl _) h c0 c1 c2 c3 c4 c5 c8
        exact Or.inl ⟨n, lf3, g, w0, w2, w4, w5, hE.st (fun i hi => by rw [decide_eq_true hi, Bool.and_true]), h⟩
  obtain ⟨n, lf2, g, b0, b2, b4, b5, hE, h⟩ := s1
  have tv : ∀ {g : cg} {st : Nat → Bool} {sn : Bool}, EM d g N W P Q T fe st sn → ∀ p t : Nat, p < nq → t < 8 → g 254 (51 + 8 * p + t) = trh c p t := fun hE p t hp ht => by
    rw [hE.2.1 _ (by omega) (by omega) (by omega) (by omega) (fun i hi => by omega)]
    exact (hS p hp).2 t ht
  have newo : ∀ {g : cg} {st : Nat → Bool}, EM d g N W P Q T fe st false → OHM g N W P Q T fe 0 0 := fun hE => by
    obtain ⟨-, -, -, -, f7, f8, f9, f10, f11, f12, f13⟩ := hE
    exact ⟨f7, f8, f9, f10, f11, f12, f13⟩
  rcases m_swr202 (by omega) (by omega) (by omega) (by omega) hN15 (newo hE) (tv hE P T hP hT) h b0 b2 b4 b5 with ⟨z, lf3, e0, e2, e4, e5, e8, e9, h⟩ | ⟨z, e⟩
  · refine zloop (fun k lf g => k ≤ N ∧ lf 0 = (4, 253) ∧ lf 2 = (0, (P : Int)) ∧ lf 4 = (0, (T : Int)) ∧ lf 5 = (0, (N : Int)) ∧ lf 9 = (0, (k : Int)) ∧ EM d g N W P Q T fe (fun i => gsx c W P Q T i || (msx c P Q T i && decide (i < k))) false ∧ ∃ y : Int, lf 8 = (0, y) ∧ (y ≠ 0 ↔ 0 < cnt (msx c P Q T) k)) _ ?_ n 0 lf3 g ⟨by omega, e0, e2, e4, e5, e9, hE.st (fun i _ => by rw [show decide (i < 0) = false from decide_eq_false (Nat.not_lt_zero i), Bool.and_false, Bool.or_false]), 0, e8, ⟨fun q => absurd rfl q, fun q => absurd q (Nat.lt_irrefl 0)⟩⟩ h
    intro n k lf g ⟨hk, c0, c2, c4, c5, c9, hE, y, c8, hy⟩ h
    by_cases hlt : k < N
    · obtain ⟨v1, v2, v3, v4, v5⟩ := hV k hlt
      obtain ⟨-, l0, l1, l2, l3⟩ := (go k hlt).v h5 h6
      have sk : g 254 (104 + 8 * k) = cond (gsx c W P Q T k) 1 (ohs c k) := by
        rw [hE.2.2.2.1 k hlt]
        dsimp only
        rw [show decide (k < k) = false from decide_eq_false (Nat.lt_irrefl k), Bool.and_false, Bool.or_false]
        cases gsx c W P Q T k
        · exact (hR k hlt).2.2.2.2.2.1
        · rfl
      have om := om_st hR hlt (fun j i1 i2 i3 => hE.2.1 j (by omega) (by omega) (by omega) (by omega) i3) sk
      have hst : ∀ i : Nat, i ≠ k → (gsx c W P Q T i || (msx c P Q T i && decide (i < k + 1))) = (gsx c W P Q T i || (msx c P Q T i && decide (i < k))) := fun i hi => by
        by_cases q : i < k
        · rw [decide_eq_true q, decide_eq_true (show i < k + 1 by omega)]
        · rw [decide_eq_false q, decide_eq_false (show ¬ i < k + 1 by omega)]
      have gst : oht c k ≠ T → gsx c W P Q T k = false := fun e => bf (fun q => e (gns_i.mp (gsx_i.mp q).1).2.2.1)
      have skip : ∀ {lf3 : dlf} {g' : cg}, msx c P Q T k = false → g' = g → lf3 0 = (4, 253) → lf3 2 = (0, (P : Int)) → lf3 4 = (0, (T : Int)) → lf3 5 = (0, (N : Int)) → lf3 8 = (0, y) → lf3 9 = (0, 1 + (k : Int)) → k + 1 ≤ N ∧ lf3 0 = (4, 253) ∧ lf3 2 = (0, (P : Int)) ∧ lf3 4 = (0, (T : Int)) ∧ lf3 5 = (0, (N : Int)) ∧ lf3 9 = (0, ((k + 1 : Nat) : Int)) ∧ EM d g' N W P Q T fe (fun i => gsx c W P Q T i || (msx c P Q T i && decide (i < k + 1))) false ∧ ∃ y : Int, lf3 8 = (0, y) ∧ (y ≠ 0 ↔ 0 < cnt (msx c P Q T) (k + 1)) := by
        intro lf3 g' hf eg w0 w2 w4 w5 w8 w9
        rw [eg]
        exact ⟨hlt, w0, w2, w4, w5, by rw [w9]; exact congrArg _ (Int.add_comm _ _), hE.st (fun i _ => by
          by_cases q : i = k
          · rw [q, hf, Bool.false_and, Bool.false_and]
          · exact hst i q), y, w8, by rw [cnt_n hf]; exact hy⟩
      rcases m_swr218s (by omega) (by omega) (by omega) (by omega) v2 v3 v4 v5 (by omega) hN15 (newo hE) om (tv hE _ _ l1 l3) hlt h c0 c2 c4 c5 c8 c9 with ⟨x, lf4, w0, w2, w4, w5, w8, w9, h⟩ | ⟨x, g1, r1, kf, h⟩
      · have hf : msx c P Q T k = false := bf (fun q => by
          obtain ⟨q1, ⟨q2, q3, q4, q5⟩, -⟩ := msx_i.mp q
          rw [gst q4] at x
          have x : (ohs c k ≠ 0 ∨ (ohs c k = 0 ∧ trh c (ohp c k) (oht c k) ≠ (ohq c k : Int) ∧ (ohp c k : Int) ≠ (P : Int)) ∨ (ohs c k = 0 ∧ trh c (ohp c k) (oht c k) ≠ (ohq c k : Int) ∧ (ohp c k : Int) = (P : Int) ∧ (oht c k : Int) = (T : Int)) ∨ (ohs c k = 0 ∧ trh c (ohp c k) (oht c k) = (ohq c k : Int))) := x
          omega)
        exact Or.inr ⟨lf4, g, skip hf rfl w0 w2 w4 w5 w8 w9, h⟩
      · have nt : oht c k ≠ T := by omega
        have hg0 := gst nt
        rw [hg0] at x sk
        have x1 : ohs c k = 0 := x.1
        rcases m_fit_ok (x := c 4 (ohq c k)) (y := c 4 Q) (sp := c 3 7) v4 v5 (by omega) (by omega) (by rw [hE.2.1 _ (by omega) (by omega) (by omega) (by omega) (fun i hi => by omega)]; exact hm _ l2) (by rw [hE.2.1 _ (by omega) (by omega) (by omega) (by omega) (fun i hi => by omega)]; exact hm _ hQ) (by rw [hE.2.1 _ (by omega) (by omega) (by omega) (by omega) (fun i hi => by omega)]; exact d5) (ml _ l2) (ml _ hQ) s0 kf rfl rfl rfl rfl rfl with ⟨f1, f2⟩ | ⟨f1, f2⟩
        · obtain ⟨t1, t2⟩ := oI f2
          rw [t1, t2] at h
          have hf : msx c P Q T k = false := bf (fun q => (msx_i.mp q).2.2 f1)
          rcases h with ⟨w, -⟩ | ⟨w, -⟩ | ⟨w, lf4, w0, w2, w4, w5, w8, w9, h⟩
          · exact absurd w.1 (by decide)
          · exact absurd w.1 (by decide)
          · exact Or.inr ⟨lf4, g, skip hf rfl w0 w2 w4 w5 w8 w9, h⟩
        · obtain ⟨t1, t2⟩ := oI f2
          rw [t1, t2] at h
          have hf : msx c P Q T k = true := msx_i.mpr ⟨z, ⟨x1, by omega, nt, x.2.1⟩, f1⟩
          rcases h with ⟨w, -⟩ | ⟨w, lf4, w0, w2, w4, w5, w8, w9, h⟩ | ⟨w, -⟩
          · have w := w.2
            rw [sk] at w
            exact absurd x1 w
          · exact Or.inr ⟨lf4, _, ⟨hlt, w0, w2, w4, w5, by rw [w9]; exact congrArg _ (Int.add_comm _ _), hE.void hlt (by omega) (by rw [hf, decide_eq_true (show k < k + 1 by omega), Bool.and_true, Bool.or_true]) hst, 1, w8, ⟨fun _ => by rw [cnt_s hf]; omega, fun _ => by decide⟩⟩, h⟩
          · exact absurd rfl w
    · have ek : k = N := by omega
      subst ek
      have hE' : EM d g k W P Q T fe (voy c k W P Q T) false := hE.st (fun i hi => by rw [decide_eq_true hi, Bool.and_true]; rfl)
      rcases m_swr218e (by omega) (by omega) hN15 (by omega) (Nat.le_refl _) h c0 c2 c4 c5 c8 c9 with ⟨x, e⟩ | ⟨x, e⟩
      · have hv : von c k P Q T = false := decide_eq_false (fun q => by
          have := hy.mpr q
          rcases x with x | x
          · exact this x
          · exact x.2 (newo hE').2.2.2.2.2.1)
        rw [hv]
        exact Or.inl ⟨g, e, hE'⟩
      · have hv : von c k P Q T = true := decide_eq_true (hy.mp x.1)
        rw [hv]
        obtain ⟨f1, f2, ⟨f3, f4, f5⟩, f6, f7, f8, f9, f10, f11, f12, f13⟩ := hE'
        have D : ∀ j : Nat, j ≠ 104 + 8 * k → cup g 254 (104 + 8 * k) 1 254 j = g 254 j := fun j hj => cup_ne (by omega)
        exact Or.inl ⟨_, e, fun x y hx => by rw [cup_ne (by omega)]; exact f1 x y hx, fun j i1 i2 i3 i4 i5 => by rw [D _ (by omega)]; exact f2 j i1 i2 i3 i4 i5, ⟨by rw [D _ (by omega)]; exact f3, by rw [D _ (by omega)]; exact f4, by rw [D _ (by omega)]; exact f5⟩, fun i hi => by rw [D _ (by omega)]; exact f6 i hi, by rw [D _ (by omega)]; exact f7, by rw [D _ (by omega)]; exact f8, by rw [D _ (by omega)]; exact f9, by rw [D _ (by omega)]; exact f10, by rw [D _ (by omega)]; exact f11, by rw [cup_at]; rfl, by rw [D _ (by omega)]; exact f13⟩
  · have nm : ∀ i : Nat, msx c P Q T i = false := fun i => bf (fun q => (msx_i.mp q).1 z)
    have hv : von c N P Q T = false := decide_eq_false (by rw [cnt_0 (fun i _ => nm i)]; exact Nat.lt_irrefl 0)
    rw [hv]
    exact ⟨g, e, hE.st (fun i _ => by unfold voy; rw [nm i, Bool.or_false])⟩
end Ent3
end
section
/-! swear, find, recant, earn, meet, ride: answers, and what is behind them -/
def FRs (c c' : cg) : Prop := (∀ k j : Nat, ¬ (k = 0 ∧ j = 0) → ¬ (k = 3 ∧ 7 ≤ j ∧ j ≤ 9) → (k < 17 ∨ 127 ≤ k) → c' k j = c k j) ∧ ∀ i : Nat, i < 6 → c' (17 + 2 * i) 0 = c (17 + 2 * i) 0
def FRm (d d' : cg) : Prop := (∀ k j : Nat, k ≠ 254 → ¬ (k = 253 ∧ j = 2) → d' k j = d k j) ∧ ∀ j : Nat, (j = 7 ∨ 260 ≤ j) → d' 254 j = d 254 j
def OPR (c' d' : cg) (np nq : Nat) (c d : cg) : Prop := ∃ N : Nat, CT c' d' np nq N ∧ GD c' np nq N ∧ FRs c c' ∧ FRm d d'
section Ops
variable {sv : Nat → Int32} {L : Nat} {n n' : Nat} {lf lf' : dlf} {c d c' d' : cg} {np nq N : Nat} {a b e f r r' : Int}
/-- but for the STATUS -/
theorem opr_st (hC : CT c d np nq N) (hG : GD c np nq N) {x y : Int} (h1 : c' = cup c 0 0 x) (h2 : d' = cup d 253 2 y) : OPR c' d' np nq c d := by
  obtain ⟨⟨h5, h6, hN⟩, -⟩ := id hC
  have s : SCL c c' np nq N := SCL.of h5 h6 hN (fun k j k1 k2 => by rw [h1, cup_ne (by omega)])
  exact ⟨N, hC.mv s (fun j _ => by rw [h2, cup_ne (by omega)]), hG.mv h5 h6 s, ⟨fun k j i1 _ _ => by rw [h1, cup_ne i1], fun i _ => by rw [h1, cup_ne (by omega)]⟩, fun k j i1 i2 => by rw [h2, cup_ne i2], fun j _ => by rw [h2, cup_ne (by omega)]⟩
theorem OPR.st (h : OPR c' d' np nq c d) (x y : Int) : OPR (cup c' 0 0 x) (cup d' 253 2 y) np nq c d := by
  obtain ⟨N, hC, hG, ⟨f1, f2⟩, g1, g2⟩ := h
  obtain ⟨⟨h5, h6, hN⟩, -⟩ := id hC
  have s : SCL c' (cup c' 0 0 x) np nq N := SCL.of h5 h6 hN (fun k j k1 k2 => by rw [cup_ne (by omega)])
  exact ⟨N, hC.mv s (fun j _ => by rw [cup_ne (by omega)]), hG.mv h5 h6 s, ⟨fun k j i1 i2 i3 => by rw [cup_ne i1]; exact f1 k j i1 i2 i3, fun i hi => by rw [cup_ne (by omega)]; exact f2 i hi⟩, fun k j i1 i2 => by rw [cup_ne i2]; exact g1 k j i1 i2, fun j hj => by rw [cup_ne (by omega)]; exact g2 j hj⟩
theorem find_op (hC : CT c d np nq N) (hG : GD c np nq N) (h : zr sv L n 305 0 lf [] c (c', some (0, r))) (h0 : lf 0 = (4, 0)) (h1 : lf 1 = (0, a)) (h2 : lf 2 = (0, b)) (h3 : lf 3 = (0, e)) (h' : zr sv L n' 306 0 lf' [] d (d', some (0, r'))) (h0' : lf' 0 = (4, 253)) (h1' : lf' 1 = (0, a)) (h2' : lf' 2 = (0, b)) (h3' : lf' 3 = (0, e)) : r = r' ∧ OPR c' d' np nq c d := by
  obtain ⟨⟨h5, h6, hN⟩, ⟨c0, c3, c9⟩, ⟨d0, d1, d2⟩, -⟩ := id hC
  rcases t_find h h0 h1 h2 h3 with ⟨z, o⟩ | ⟨z, g1, r1, k1, o⟩
  · rcases m_find h' h0' h1' h2' h3' with ⟨z', o'⟩ | ⟨z', -⟩
    · obtain ⟨u1, u2⟩ := oI o
      obtain ⟨v1, v2⟩ := oI o'
      exact ⟨by omega, opr_st hC hG u1 v1⟩
    · exfalso; omega
  · rcases m_find h' h0' h1' h2' h3' with ⟨z', o'⟩ | ⟨z', g2, r2, k2, o'⟩
    · exfalso; omega
    · obtain ⟨P, rfl⟩ : ∃ P : Nat, a = (P : Int) := ⟨a.toNat, by omega⟩
      obtain ⟨Q, rfl⟩ : ∃ Q : Nat, b = (Q : Int) := ⟨b.toNat, by omega⟩
      obtain ⟨T, rfl⟩ : ∃ T : Nat, e = (T : Int) := ⟨e.toNat, by omega⟩
      obtain ⟨e1, -, e2, e3, e4, e5⟩ := find_pr (by omega) (by omega) (by omega) hC hG k1 rfl rfl rfl rfl k2 rfl rfl rfl rfl
      obtain ⟨u1, u2⟩ := oI o
      obtain ⟨v1, v2⟩ := oI o'
      refine ⟨by omega, ?_⟩
      rw [u1, v1]
      exact OPR.st ⟨N, e2, e3, ⟨fun k j _ i2 i3 => e4.1 k j (by omega) (by omega), e4.2⟩, fun k j i1 _ => e5.1 k j i1, e5.2⟩ _ _
theorem fees_rng {P Q T W : Nat} (hG : GD c np nq N) (hN : N ≤ 16) : 0 ≤ fees c N W P Q T ∧ fees c N W P Q T ≤ 2000 := by
  obtain ⟨⟨s1, s2, -⟩, -⟩ := hG
  have cl := cnt_le (f := gns c W P Q T) N
  have m1 : 0 ≤ c 3 6 * (cnt (gns c W P Q T) N : Int) := Int.mul_nonneg s2.1 (by omega)
  have m2 : c 3 6 * (cnt (gns c W P Q T) N : Int) ≤ 99 * 16 := Int.mul_le_mul s2.2 (by omega) (by omega) (by decide)
  have hr : rate c N W P Q T = c 3 5 + c 3 6 * (cnt (gns c W P Q T) N : Int) := by
    unfold rate
    rw [w32_id (z := c 3 6 * (cnt (gns c W P Q T) N : Int)) (by omega) (by omega), w32_id (by omega) (by omega)]
  unfold fees
  split
  · omega
  · split
    · have q : ∀ k : Nat, k < 2000 → 0 ≤ qdi (k : Int) 2 ∧ qdi (k : Int) 2 ≤ 1000 := by decide +kernel
      have := q (rate c N W P Q T + 1).toNat (by omega)
      rw [show (((rate c N W P Q T + 1).toNat : Nat) : Int) = rate c N W P Q T + 1 by omega] at this
      rw [w32_id (by omega) (by omega)]
      omega
    · omega
theorem whys_n {P Q T W : Nat} : 0 ≤ whys c N W P Q T := by
  unfold whys
  split
  · decide
  · split
    · decide
    · split
      · decide
      · split
        · decide
        · split <;> decide
theorem whys_0 {P Q T W : Nat} (h : whys c N W P Q T = 0) : N ≠ 16 ∧ (∀ k : Nat, k < N → spk c W P T k = false) ∧ fees c N W P Q T ≤ c (17 + 2 * W) 1 := by
  unfold whys at h
  split at h
  · exact absurd h (by decide)
  · rename_i h1
    split at h
    · exact absurd h (by decide)
    · rename_i h2
      split at h
      · exact absurd h (by decide)
      · split at h
        · exact absurd h (by decide)
        · split at h
          · exact absurd h (by decide)
          · rename_i h5
            exact ⟨h1, fun k hk => bf (fun q => h2 ((cnt_pos N).mpr ⟨k, hk, q⟩)), by omega⟩
theorem swear_op (hC : CT c d np nq N) (hG : GD c np nq N) (h : zr sv L n 303 0 lf [] c (c', some (0, r))) (h0 : lf 0 = (4, 0)) (h1 : lf 1 = (0, a)) (h2 : lf 2 = (0, b)) (h3 : lf 3 = (0, e)) (h4 : lf 4 = (0, f)) (h' : zr sv L n' 304 0 lf' [] d (d', some (0, r'))) (h0' : lf' 0 = (4, 253)) (h1' : lf' 1 = (0, a)) (h2' : lf' 2 = (0, b)) (h3' : lf' 3 = (0, e)) (h4' : lf' 4 = (0, f)) : r = r' ∧ OPR c' d' np nq c d := by
  obtain ⟨⟨h5, h6, hN⟩, ⟨c0, c3, c9⟩, ⟨d0, d1, d2⟩, ⟨t3, t4, t5, t6⟩, -, hS, -⟩ := id hC
  have hV := hG.hv h5 h6
  have hR := hC.hr hG
  obtain ⟨g1, r1, k1, h⟩ := t_swear h h0 h1 h2 h3 h4
  rcases t_isAsked k1 rfl rfl rfl rfl rfl with ⟨z, o1⟩ | ⟨z, g2, k2, o1⟩
  · obtain ⟨x1, x2⟩ := oI o1
    rw [x1, x2] at h
    rcases h with ⟨q, -⟩ | ⟨-, o⟩
    · exact absurd rfl q
    · rcases m_swear h' h0' h1' h2' h3' h4' with ⟨z', o'⟩ | ⟨z', -⟩
      · obtain ⟨u1, u2⟩ := oI o
        obtain ⟨v1, v2⟩ := oI o'
        exact ⟨by omega, opr_st hC hG u1 v1⟩
      · exfalso; omega
  · obtain ⟨x1, x2⟩ := oI o1
    rw [x1, x2] at h
    obtain ⟨W, rfl⟩ : ∃ W : Nat, a = (W : Int) := ⟨a.toNat, by omega⟩
    obtain ⟨P, rfl⟩ : ∃ P : Nat, b = (P : Int) := ⟨b.toNat, by omega⟩
    obtain ⟨Q, rfl⟩ : ∃ Q : Nat, e = (Q : Int) := ⟨e.toNat, by omega⟩
    obtain ⟨T, rfl⟩ : ∃ T : Nat, f = (T : Int) := ⟨f.toNat, by omega⟩
    have hW : W < nq := by omega
    have hP : P < nq := by omega
    have hQ : Q < np := by omega
    have hT : T < 8 := by omega
    obtain ⟨ca, o2, hA⟩ := ask_ok (nq := nq) (by omega) (by omega) hN c9 hV hW hG.fr6 k2 rfl rfl rfl
    have x3 := oV o2
    rw [x3] at h
    have hw := (hG.2.2.1 W hW).wok
    have FA : ∀ k j : Nat, ¬ (92 ≤ k ∧ k ≤ 94) → ca k j = c k j := fun k j hk => hA.1.1 k j (by omega) (by omega) (by omega)
    rcases m_swear h' h0' h1' h2' h3' h4' with ⟨z', o'⟩ | ⟨z', g3, r3, k3, h'⟩
    · exfalso; omega
    · obtain ⟨v1, v2⟩ := oI (m_why_ok (nq := nq) (by omega) (by omega) (by omega) (by omega) hN d2 hV hR hG.2.2.2.2 hS hW hP (fun k hk => ((hG.2.2.2.1 k hk).v h5 h6).2.2.1) ⟨t3, t4⟩ k3 rfl rfl rfl rfl rfl)
      rw [v1, v2] at h'
      have w0 := whys_n (c := c) (N := N) (P := P) (Q := Q) (T := T) (W := W)
      rcases h with ⟨-, g4, r4, k4, h⟩ | ⟨q, -⟩
      · obtain ⟨y1, y2⟩ := oI (hind_ok hA hV hw (by omega) (by omega) (by omega) (by omega) hN c9 k4 rfl rfl rfl)
        rw [y1, y2] at h
        rcases h with ⟨q, g5, r5, k5, g6, r6, k6, o⟩ | ⟨q, o⟩
        · rcases h' with ⟨q', g7, k7, o'⟩ | ⟨q', -⟩
          · obtain ⟨n16, nsp, nfe⟩ := whys_0 q
            obtain ⟨s1, s2⟩ := oI (price_ok hA hV hw (by omega) (by omega) (by omega) (by omega) hN k5 rfl rfl rfl)
            rw [s1, s2] at k6
            have sc : SCL c ca np nq N := SCL.of h5 h6 hN (fun k j k1 k2 => FA k j (by omega))
            have hGa := hG.mv h5 h6 sc
            have hCa := hC.mv sc (d' := d) (fun j _ => rfl)
            obtain ⟨cb, o6, hE⟩ := enter_ok hGa h5 h6 (by omega) (by rw [FA 3 9 (by omega)]; exact c9) hW hP hQ hT k6 rfl rfl rfl rfl rfl rfl
            obtain ⟨s3, s4⟩ := oI o6
            obtain ⟨db, o7, hM⟩ := swears_ok hC hG (by omega) hW hP hQ hT k7 rfl rfl rfl rfl rfl
            have s5 := oV o7
            -- the class's picture, by the court ahead of the asking
            have ob : ∀ k : Nat, k < N → ohw ca k = ohw c k ∧ ohp ca k = ohp c k ∧ ohq ca k = ohq c k ∧ oht ca k = oht c k ∧ ohs ca k = ohs c k := fun k hk => sc.o hk
            have eg : ∀ i : Nat, i < N → voy ca N W P Q T i = voy c N W P Q T i := fun i hi => by
              obtain ⟨o0, o1, o2, o3, o5⟩ := ob i hi
              unfold voy gsx msx gns isof trh
              rw [o0, o1, o2, o3, o5, FA _ _ (by omega), FA _ _ (by omega), FA _ _ (by have := (hV i hi).2.2.1; omega), FA _ _ (by omega), FA _ _ (by omega), FA _ _ (by omega)]
            have em : von ca N P Q T = von c N P Q T := by
              unfold von
              rw [cnt_congr N (fun i hi => show msx ca P Q T i = msx c P Q T i by
                obtain ⟨o0, o1, o2, o3, o5⟩ := ob i hi
                unfold msx trh
                rw [o1, o2, o3, o5, FA _ _ (by omega), FA _ _ (by have := (hV i hi).2.2.1; omega), FA _ _ (by omega), FA _ _ (by omega), FA _ _ (by omega)])]
            have hE' : EC ca cb N W P Q T (fees c N W P Q T) (voy c N W P Q T) (von c N P Q T) := by
              obtain ⟨i1, i2, i3, i4, i5, i6, i7, i8, i9, ia, ib⟩ := hE
              refine ⟨i1, i2, i3, fun i hi => ⟨(i4 i hi).1, by rw [(i4 i hi).2, eg i hi]⟩, i5, i6, i7, i8, i9, ?_, ib⟩
              rw [← em]
              exact ia
            have q1 := ce hCa (by omega) hW hE' hM
            have fr := fees_rng (P := P) (Q := Q) (T := T) (W := W) hG hN
            have q2 := gde h5 h6 hGa (by omega) hW hP hQ hT ⟨fr.1, fr.2, by rw [FA _ _ (by omega)]; exact nfe⟩ (fun k hk => by
              obtain ⟨o0, o1, o2, o3, o5⟩ := ob k hk
              have := nsp k hk
              unfold spk isof at *
              rw [o0, o1, o3, o5]
              exact this) hE'
            obtain ⟨u1, u2⟩ := oI o
            obtain ⟨v3, v4⟩ := oI o'
            rw [s3, s4] at *
            refine ⟨?_, ?_⟩
            · rw [u2, v4, s5, hM.2.2.1.2.2, w32_id (by omega) (by omega)]
              omega
            · rw [u1, v3, s5]
              refine OPR.st ⟨N + 1, q1, q2, ⟨fun k j i1 i2 i3 => ?_, fun i hi => ?_⟩, fun k j i1 i2 => hM.1 k j i1, fun j hj => hM.2.1 j (by omega) (by omega) (by omega) (by omega) (fun i hi => by omega)⟩ _ _
              · rw [hE'.1 k j (by omega) (by omega)]
                exact FA k j (by omega)
              · rw [(hE'.2.1 i hi).1 0 (by omega)]
                exact FA _ _ (by omega)
          · exfalso; omega
        · rcases h' with ⟨q', -⟩ | ⟨q', o'⟩
          · exfalso; omega
          · obtain ⟨u1, u2⟩ := oI o
            obtain ⟨v3, v4⟩ := oI o'
            refine ⟨by omega, ?_⟩
            rw [u1, v3]
            have sc : SCL c ca np nq N := SCL.of h5 h6 hN (fun k j k1 k2 => FA k j (by omega))
            exact OPR.st ⟨N, hC.mv sc (fun j _ => rfl), hG.mv h5 h6 sc, ⟨fun k j i1 i2 i3 => FA k j (by omega), fun i hi => FA _ _ (by omega)⟩, fun k j _ _ => rfl, fun j _ => rfl⟩ _ _
      · exact absurd q (by decide)
theorem inst_ok {s : Int} (hV : OHV c N) (hN16 : N ≤ 16) (hN : c 3 9 = (N : Int)) {o : cg × Option cv} (h : zr sv L n 76 0 lf [] c o) (h0 : lf 0 = (4, 3)) (h1 : lf 1 = (0, s)) : o = (c, some (0, (cnt (fun k => decide (ohs c k = s)) N : Int))) := by
  obtain ⟨lf1, a0, a1, a2, a3, h⟩ := t_inst0 h h0 h1
  refine zloop (fun k lf g => g = c ∧ k ≤ N ∧ lf 0 = (4, 3) ∧ lf 1 = (0, s) ∧ lf 2 = (0, (cnt (fun k => decide (ohs c k = s)) k : Int)) ∧ lf 3 = (0, (k : Int))) _ ?_ n 0 lf1 c ⟨rfl, by omega, a0, a1, a2, a3⟩ h
  intro n k lf g ⟨e, hk, b0, b1, b2, b3⟩ hzk
  subst e
  have h := hzk
  have cl := cnt_le (f := fun k => decide (ohs g k = s)) k
  by_cases hlt : k < N
  · obtain ⟨v1, v2, v3, v4, v5⟩ := hV k hlt
    rcases t_inst_s v2 v3 v4 v5 (by omega) hN16 (by omega) hN v1 hlt h b0 b1 b2 b3 with ⟨z, lf2, y0, y1, y2, y3, h⟩ | ⟨z, lf2, y0, y1, y2, y3, h⟩
    all_goals first
      | exact Or.inr ⟨lf2, _, ⟨rfl, hlt, y0, y1, by rw [y2, cnt_n (f := fun k => decide (ohs g k = s)) (decide_eq_false z)], by rw [y3]; exact congrArg _ (Int.add_comm _ _)⟩, h⟩
      | exact Or.inr ⟨lf2, _, ⟨rfl, hlt, y0, y1, by rw [y2, cnt_s (f := fun k => decide (ohs g k = s)) (decide_eq_true z)]; exact congrArg _ (Int.add_comm _ _), by rw [y3]; exact congrArg _ (Int.add_comm _ _)⟩, h⟩
  · have ek : k = N := by omega
    subst ek
    exact Or.inl (t_inst_e hN16 hN16 (by omega) hN (Nat.le_refl _) h b0 b1 b2 b3)
theorem stdg_ok (hV : OHV c N) (hR : OHR c d N) (hN16 : N ≤ 16) (hN : d 254 2 = (N : Int)) {o : cg × Option cv} (h : zr sv L n 235 0 lf [] d o) (h0 : lf 0 = (4, 253)) : o = (d, some (0, (cnt (fun k => decide (ohs c k = 0)) N : Int))) := by
  obtain ⟨lf1, a0, a1, a2, h⟩ := m_std0 h h0
  refine zloop (fun k lf g => g = d ∧ k ≤ N ∧ lf 0 = (4, 253) ∧ lf 1 = (0, (cnt (fun k => decide (ohs c k = 0)) k : Int)) ∧ lf 2 = (0, (k : Int))) _ ?_ n 0 lf1 d ⟨rfl, by omega, a0, a1, a2⟩ h
  intro n k lf g ⟨e, hk, b0, b1, b2⟩ hzk
  subst e
  have h := hzk
  have cl := cnt_le (f := fun k => decide (ohs c k = 0)) k
  by_cases hlt : k < N
  · obtain ⟨v1, v2, v3, v4, v5⟩ := hV k hlt
    rcases m_std_s (by omega) v2 v3 v4 v5 (by omega) hN16 hN (hR k hlt) hlt h b0 b1 b2 with ⟨z, lf2, y0, y1, y2, h⟩ | ⟨z, lf2, y0, y1, y2, h⟩
    · exact Or.inr ⟨lf2, _, ⟨rfl, hlt, y0, by rw [y1, cnt_n (f := fun k => decide (ohs c k = 0)) (decide_eq_false z)], by rw [y2]; exact congrArg _ (Int.add_comm _ _)⟩, h⟩
    · exact Or.inr ⟨lf2, _, ⟨rfl, hlt, y0, by rw [y1, cnt_s (f := fun k => decide (ohs c k = 0)) (decide_eq_true z)]; exact congrArg _ (Int.add_comm _ _), by rw [y2]; exact congrArg _ (Int.add_comm _ _)⟩, h⟩
  · have ek : k = N := by omega
    subst ek
    exact Or.inl (m_std_e (by omega) hN16 hN16 hN (Nat.le_refl _) h b0 b1 b2)
end Ops
end
section
/-! one cell of a court as it can be -/
theorem GD.ost {c : cg} {np nq N k : Nat} {v : Int} (h5 : np ≤ 5) (h6 : nq ≤ 6) (hN : N ≤ 16) (h : GD c np nq N) (hk : k < N) (hv : v = 1 ∨ v = 2) : GD (cup c (29 + k) 5 v) np nq N := by
  obtain ⟨⟨b1, b2, b3⟩, b4, b5, b6, b7⟩ := h
  have C : ∀ x y : Nat, ¬ (x = 29 + k ∧ y = 5) → cup c (29 + k) 5 v x y = c x y := fun x y q => cup_ne q
  have hr : cnt (rfd (cup c (29 + k) 5 v)) N = cnt (rfd c) N := cntr (fun i _ => C _ _ (by omega))
  have o : ∀ i : Nat, ohw (cup c (29 + k) 5 v) i = ohw c i ∧ ohp (cup c (29 + k) 5 v) i = ohp c i ∧ ohq (cup c (29 + k) 5 v) i = ohq c i ∧ oht (cup c (29 + k) 5 v) i = oht c i := fun i => by
    unfold ohw ohp ohq oht
    rw [C _ _ (by omega), C _ _ (by omega), C _ _ (by omega), C _ _ (by omega)]
    exact ⟨rfl, rfl, rfl, rfl⟩
  have st : ∀ i : Nat, ohs (cup c (29 + k) 5 v) i = 0 → ohs c i = 0 := fun i e => by
    unfold ohs at *
    by_cases q : i = k
    · rw [q, cup_at] at e; omega
    · rw [C _ _ (by omega)] at e; exact e
  refine ⟨⟨by rw [C _ _ (by omega)]; exact b1, by rw [C _ _ (by omega)]; exact b2, by rw [C _ _ (by omega)]; exact b3⟩, fun i hi => by rw [C _ _ (by omega)]; exact b4 i hi, fun i hi => ?_, fun i hi => ?_, fun i j hi hj => ?_⟩
  · obtain ⟨p1, p2, p3, p4, p5, p6⟩ := b5 i hi
    refine ⟨by rw [C _ _ (by omega)]; exact p1, by rw [C _ _ (by omega)]; exact p2, by rw [C _ _ (by omega)]; exact p3, by rw [C _ _ (by omega)]; exact p4, by rw [C _ _ (by omega), hr]; exact p5, fun t ht => ?_⟩
    unfold trh
    rw [C _ _ (by omega)]; exact p6 t ht
  · obtain ⟨p0, p1, p2, p3, p4, p5, p6, p7⟩ := b6 i hi
    obtain ⟨-, l0, l1, l2, l3⟩ := (b6 i hi).v h5 h6
    obtain ⟨o0, o1, o2, o3⟩ := o i
    refine ⟨by rw [C _ _ (by omega)]; exact p0, by rw [C _ _ (by omega)]; exact p1, by rw [C _ _ (by omega)]; exact p2, by rw [C _ _ (by omega)]; exact p3, by rw [C _ _ (by omega)]; exact p4, ?_, by rw [C _ _ (by omega)]; exact p6, fun x y => ?_⟩
    · by_cases q : i = k
      · rw [q, cup_at]; omega
      · rw [C _ _ (by omega)]; exact p5
    · rw [C _ _ (by omega)] at y
      rw [o1, o3, o2]
      unfold trh
      rw [C _ _ (by omega)]
      exact p7 (st i x) y
  · obtain ⟨o0, o1, o2, o3⟩ := o i
    obtain ⟨q0, q1, q2, q3⟩ := o j
    rw [o1, q1, o3, q3, o0, q0]
    exact fun x y => b7 i j hi hj (st i x) (st j y)
/-- a cell that no OATH hangs on -/
theorem GD.cel {c c' : cg} {np nq N : Nat} (h5 : np ≤ 5) (h6 : nq ≤ 6) (h : GD c np nq N) (ho : ∀ k j : Nat, 29 ≤ k → k < 45 → c' k j = c k j) (ht : ∀ i t : Nat, i < 6 → c' (18 + 2 * i) t = c (18 + 2 * i) t) (hs : (0 ≤ c' 3 5 ∧ c' 3 5 ≤ 99) ∧ (0 ≤ c' 3 6 ∧ c' 3 6 ≤ 99) ∧ (0 ≤ c' 3 7 ∧ c' 3 7 ≤ 60)) (hm : ∀ i : Nat, i < np → c' 4 i = c 4 i) (hN : N ≤ 16) (hp : ∀ i : Nat, i < nq → (c' (17 + 2 * i) 2 = c (17 + 2 * i) 2 ∧ c' (17 + 2 * i) 3 = c (17 + 2 * i) 3 ∧ c' (17 + 2 * i) 4 = c (17 + 2 * i) 4) ∧ (∃ m : Nat, m < 64 ∧ c' (17 + 2 * i) 5 = (m : Int)) ∧ 0 ≤ c' (17 + 2 * i) 1 ∧ (c' (17 + 2 * i) 1 ≤ 9999 ∨ c' (17 + 2 * i) 1 = c (17 + 2 * i) 1)) : GD c' np nq N := by
  obtain ⟨⟨b1, b2, b3⟩, b4, b5, b6, b7⟩ := h
  have hr : cnt (rfd c') N = cnt (rfd c) N := cntr (fun i hi => ho _ _ (by omega) (by omega))
  have o : ∀ i : Nat, i < N → ohw c' i = ohw c i ∧ ohp c' i = ohp c i ∧ ohq c' i = ohq c i ∧ oht c' i = oht c i ∧ ohs c' i = ohs c i := fun i hi => by
    unfold ohw ohp ohq oht ohs
    rw [ho _ _ (by omega) (by omega), ho _ _ (by omega) (by omega), ho _ _ (by omega) (by omega), ho _ _ (by omega) (by omega), ho _ _ (by omega) (by omega)]
    exact ⟨rfl, rfl, rfl, rfl, rfl⟩
  refine ⟨hs, fun i hi => by rw [hm i hi]; exact b4 i hi, fun i hi => ?_, fun i hi => ?_, fun i j hi hj => ?_⟩
  · obtain ⟨p1, p2, p3, p4, p5, p6⟩ := b5 i hi
    obtain ⟨⟨q1, q2, q3⟩, q4, q5, q6⟩ := hp i hi
    refine ⟨by rw [q1]; exact p1, by rw [q2]; exact p2, by rw [q3]; exact p3, q4, ⟨q5, by rw [hr]; omega⟩, fun t ht' => ?_⟩
    unfold trh
    rw [ht i t (by omega)]; exact p6 t ht'
  · obtain ⟨p0, p1, p2, p3, p4, p5, p6, p7⟩ := b6 i hi
    obtain ⟨-, l0, l1, l2, l3⟩ := (b6 i hi).v h5 h6
    obtain ⟨o0, o1, o2, o3, o5⟩ := o i hi
    have q : ∀ j : Nat, c' (29 + i) j = c (29 + i) j := fun j => ho _ _ (by omega) (by omega)
    refine ⟨by rw [q]; exact p0, by rw [q]; exact p1, by rw [q]; exact p2, by rw [q]; exact p3, by rw [q]; exact p4, by rw [q]; exact p5, by rw [q]; exact p6, ?_⟩
    rw [o5, o1, o3, o2, q]
    unfold trh
    rw [ht _ _ (by omega)]
    exact p7
  · obtain ⟨o0, o1, o2, o3, o5⟩ := o i (by omega)
    obtain ⟨q0, q1, q2, q3, q5⟩ := o j hj
    rw [o5, q5, o1, q1, o3, q3, o0, q0]
    exact b7 i j hi hj
section Ops2
variable {sv : Nat → Int32} {L : Nat} {n n' : Nat} {lf lf' : dlf} {c d c' d' : cg} {np nq N : Nat} {a b r r' : Int}
theorem recant_op (hC : CT c d np nq N) (hG : GD c np nq N) (h : zr sv L n 307 0 lf [] c (c', some (0, r))) (h0 : lf 0 = (4, 0)) (h1 : lf 1 = (0, a)) (h' : zr sv L n' 308 0 lf' [] d (d', some (0, r'))) (h0' : lf' 0 = (4, 253)) (h1' : lf' 1 = (0, a)) : r = r' ∧ OPR c' d' np nq c d := by
  obtain ⟨⟨h5, h6, hN⟩, ⟨c0, c3, c9⟩, ⟨d0, d1, d2⟩, -⟩ := id hC
  have hV := hG.hv h5 h6
  have hR := hC.hr hG
  rcases t_rec0 h h0 h1 with ⟨z, o⟩ | ⟨z, lf2, y0, y1, h⟩
  · rcases m_rec0 h' h0' h1' with ⟨z', o'⟩ | ⟨z', -⟩
    · obtain ⟨u1, u2⟩ := oI o
      obtain ⟨v1, v2⟩ := oI o'
      exact ⟨by omega, opr_st hC hG u1 v1⟩
    · exfalso; omega
  · rcases m_rec0 h' h0' h1' with ⟨z', -⟩ | ⟨z', lf3, x0, x1, h'⟩
    · exfalso; omega
    · obtain ⟨k, rfl⟩ : ∃ k : Nat, a = (k : Int) := ⟨a.toNat, by omega⟩
      have hk : k < N := by omega
      obtain ⟨v1, v2, v3, v4, v5⟩ := hV k hk
      rcases t_rec17 v2 v3 v4 v5 (by omega) v1 h y0 y1 with ⟨w, g1, r1, k1, o⟩ | ⟨w, o⟩
      · rcases m_rec14 v2 v3 v4 v5 (by omega) (hR k hk) h' x0 x1 with ⟨w', -⟩ | ⟨w', g2, r2, k2, o'⟩
        · exact absurd w w'
        · have hC1 := hC.oset (k := k) (j := 5) (by omega) (by decide) 2
          rw [show 99 + 8 * k + 5 = 104 + 8 * k by omega] at hC1
          have hG1 := hG.ost h5 h6 hN hk (v := 2) (Or.inr rfl)
          obtain ⟨s1, s2⟩ := oI (inst_ok (hG1.hv h5 h6) hN (by rw [cup_ne (by omega)]; exact c9) k1 rfl rfl)
          obtain ⟨s3, s4⟩ := oI (stdg_ok (hG1.hv h5 h6) (hC1.hr hG1) hN (by rw [cup_ne (by omega)]; exact d2) k2 rfl)
          obtain ⟨u1, u2⟩ := oI o
          obtain ⟨t1, t2⟩ := oI o'
          refine ⟨by rw [u2, t2, s2, s4], ?_⟩
          rw [u1, t1, s1, s3]
          exact OPR.st ⟨N, hC1, hG1, ⟨fun x y _ i2 i3 => by rw [cup_ne (by omega)], fun i hi => by rw [cup_ne (by omega)]⟩, fun x y i1 _ => by rw [cup_ne (by omega)], fun y hy => by rw [cup_ne (by omega)]⟩ _ _
      · rcases m_rec14 v2 v3 v4 v5 (by omega) (hR k hk) h' x0 x1 with ⟨w', o'⟩ | ⟨w', -⟩
        · obtain ⟨u1, u2⟩ := oI o
          obtain ⟨t1, t2⟩ := oI o'
          exact ⟨by omega, opr_st hC hG u1 t1⟩
        · exact absurd w' w
theorem csgnl {z : Int} : csgn z < 0 ↔ z < 0 := by
  unfold csgn
  split
  · omega
  · split <;> omega
theorem csgng {z : Int} : 0 < csgn z ↔ 0 < z := by
  unfold csgn
  split
  · omega
  · split <;> omega
theorem earn_op (hC : CT c d np nq N) (hG : GD c np nq N) (h : zr sv L n 309 0 lf [] c (c', some (0, r))) (h0 : lf 0 = (4, 0)) (h1 : lf 1 = (0, a)) (h2 : lf 2 = (0, b)) (h' : zr sv L n' 310 0 lf' [] d (d', some (0, r'))) (h0' : lf' 0 = (4, 253)) (h1' : lf' 1 = (0, a)) (h2' : lf' 2 = (0, b)) : r = r' ∧ OPR c' d' np nq c d := by
  obtain ⟨⟨h5, h6, hN⟩, ⟨c0, c3, c9⟩, ⟨d0, d1, d2⟩, -, -, hS, -⟩ := id hC
  have l1 := csgnl (z := b - 1)
  have g9 := csgng (z := b - 999)
  rcases t_ern0 h h0 h1 h2 with ⟨z, o⟩ | ⟨z, lf2, y0, y1, y2, h⟩
  · rcases m_ern0 h' h0' h1' h2' with ⟨z', o'⟩ | ⟨z', -⟩
    · obtain ⟨u1, u2⟩ := oI o
      obtain ⟨v1, v2⟩ := oI o'
      exact ⟨by omega, opr_st hC hG u1 v1⟩
    · exfalso; omega
  · rcases m_ern0 h' h0' h1' h2' with ⟨z', -⟩ | ⟨z', lf3, x0, x1, x2, h'⟩
    · exfalso; omega
    · obtain ⟨W, rfl⟩ : ∃ W : Nat, a = (W : Int) := ⟨a.toNat, by omega⟩
      have hW : W < nq := by omega
      have bd := (hG.2.2.1 W hW).2.2.2.2.1
      have cl := cnt_le (f := rfd c) N
      have e1 : w32 (c (17 + 2 * W) 1 + b) = c (17 + 2 * W) 1 + b := w32_id (by omega) (by omega)
      have hc := t_ern28 (W := W) (by omega) rfl h y0 y1 y2
      have hm := m_ern26 (W := W) (by omega) (hS W hW).1.1 h' x0 x1 x2
      rw [e1] at hc hm
      rcases hc with ⟨w, o⟩ | ⟨w, o⟩
      · rcases hm with ⟨w', o'⟩ | ⟨w', -⟩
        · obtain ⟨u1, u2⟩ := oI o
          obtain ⟨v1, v2⟩ := oI o'
          refine ⟨by omega, ?_⟩
          rw [u1, v1]
          have hC1 := hC.pset (i := W) (j := 1) (by omega) (by decide) (c (17 + 2 * W) 1 + b)
          rw [show 14 + 6 * W + 1 = 15 + 6 * W by omega] at hC1
          refine OPR.st ⟨N, hC1, hG.cel h5 h6 (fun k j k1 k2 => by rw [cup_ne (by omega)]) (fun i t hi => by rw [cup_ne (by omega)]) (by rw [cup_ne (by omega), cup_ne (by omega), cup_ne (by omega)]; exact hG.1) (fun i hi => by rw [cup_ne (by omega)]) hN (fun i hi => ⟨⟨by rw [cup_ne (by omega)], by rw [cup_ne (by omega)], by rw [cup_ne (by omega)]⟩, by rw [cup_ne (by omega)]; exact (hG.2.2.1 i hi).2.2.2.1, ?_⟩), ⟨fun x y _ i2 i3 => by rw [cup_ne (by omega)], fun i hi => by rw [cup_ne (by omega)]⟩, fun x y i1 _ => by rw [cup_ne (by omega)], fun y hy => by rw [cup_ne (by omega)]⟩ _ _
          by_cases q : i = W
          · rw [q, cup_at]; exact ⟨by omega, Or.inl w⟩
          · rw [cup_ne (by omega)]; exact ⟨(hG.2.2.1 i hi).2.2.2.2.1.1, Or.inr rfl⟩
        · exfalso; omega
      · rcases hm with ⟨w', -⟩ | ⟨w', o'⟩
        · exfalso; omega
        · obtain ⟨u1, u2⟩ := oI o
          obtain ⟨v1, v2⟩ := oI o'
          exact ⟨by omega, opr_st hC hG u1 v1⟩
theorem meet_op (hC : CT c d np nq N) (hG : GD c np nq N) (h : zr sv L n 311 0 lf [] c (c', some (0, r))) (h0 : lf 0 = (4, 0)) (h1 : lf 1 = (0, a)) (h2 : lf 2 = (0, b)) (h' : zr sv L n' 312 0 lf' [] d (d', some (0, r'))) (h0' : lf' 0 = (4, 253)) (h1' : lf' 1 = (0, a)) (h2' : lf' 2 = (0, b)) : r = r' ∧ OPR c' d' np nq c d := by
  obtain ⟨⟨h5, h6, hN⟩, ⟨c0, c3, c9⟩, ⟨d0, d1, d2⟩, -, -, hS, -⟩ := id hC
  rcases t_mt0 h h0 h1 h2 with ⟨z, o⟩ | ⟨z, lf2, y0, y1, y2, h⟩
  · rcases m_mt0 h' h0' h1' h2' with ⟨z', o'⟩ | ⟨z', -⟩
    · obtain ⟨u1, u2⟩ := oI o
      obtain ⟨v1, v2⟩ := oI o'
      exact ⟨by omega, opr_st hC hG u1 v1⟩
    · exfalso; omega
  · rcases m_mt0 h' h0' h1' h2' with ⟨z', -⟩ | ⟨z', lf3, x0, x1, x2, h'⟩
    · exfalso; omega
    · obtain ⟨A, rfl⟩ : ∃ A : Nat, a = (A : Int) := ⟨a.toNat, by omega⟩
      obtain ⟨B, rfl⟩ : ∃ B : Nat, b = (B : Int) := ⟨b.toNat, by omega⟩
      have hA : A < nq := by omega
      have hB : B < nq := by omega
      have nAB : A ≠ B := by omega
      obtain ⟨ma, ma1, ma2⟩ := (hG.2.2.1 A hA).2.2.2.1
      obtain ⟨mb, mb1, mb2⟩ := (hG.2.2.1 B hB).2.2.2.1
      have hc := t_mt15 (W := A) (P := B) (by omega) (by omega) ma2 h y0 y1 y2
      have hm := m_mt15 (W := A) (P := B) (by omega) (by omega) ((hS A hA).1.2.2.2.2.trans ma2) h' x0 x1 x2
      have i6 := isb6 ma ma1 B (by omega)
      rw [cup_ne (by omega), mb2, (bor6 ma ma1 B (by omega)).1, (bor6 mb mb1 A (by omega)).1] at hc
      rw [cup_ne (by omega), (hS B hB).1.2.2.2.2, mb2, (bor6 ma ma1 B (by omega)).1, (bor6 mb mb1 A (by omega)).1] at hm
      rcases hc with ⟨w, o⟩ | ⟨w, o⟩
      · rcases hm with ⟨w', o'⟩ | ⟨w', -⟩
        · obtain ⟨u1, u2⟩ := oI o
          obtain ⟨v1, v2⟩ := oI o'
          refine ⟨by omega, ?_⟩
          rw [u1, v1]
          have hC1 := (hC.pset (i := A) (j := 5) (by omega) (by decide) ((ma ||| 2 ^ B : Nat) : Int)).pset (i := B) (j := 5) (by omega) (by decide) ((mb ||| 2 ^ A : Nat) : Int)
          rw [show 14 + 6 * A + 5 = 19 + 6 * A by omega, show 14 + 6 * B + 5 = 19 + 6 * B by omega] at hC1
          refine OPR.st ⟨N, hC1, hG.cel h5 h6 (fun k j k1 k2 => by rw [cup_ne (by omega), cup_ne (by omega)]) (fun i t hi => by rw [cup_ne (by omega), cup_ne (by omega)]) (by rw [cup_ne (by omega), cup_ne (by omega), cup_ne (by omega), cup_ne (by omega), cup_ne (by omega), cup_ne (by omega)]; exact hG.1) (fun i hi => by rw [cup_ne (by omega), cup_ne (by omega)]) hN (fun i hi => ⟨⟨by rw [cup_ne (by omega), cup_ne (by omega)], by rw [cup_ne (by omega), cup_ne (by omega)], by rw [cup_ne (by omega), cup_ne (by omega)]⟩, ?_, ?_⟩), ⟨fun x y _ i2 i3 => by rw [cup_ne (by omega), cup_ne (by omega)], fun i hi => by rw [cup_ne (by omega), cup_ne (by omega)]⟩, fun x y i1 _ => by rw [cup_ne (by omega), cup_ne (by omega)], fun y hy => by rw [cup_ne (by omega), cup_ne (by omega)]⟩ _ _
          · by_cases q : i = B
            · rw [q, cup_at]; exact ⟨_, (bor6 mb mb1 A (by omega)).2, rfl⟩
            · rw [cup_ne (by omega)]
              by_cases q' : i = A
              · rw [q', cup_at]; exact ⟨_, (bor6 ma ma1 B (by omega)).2, rfl⟩
              · rw [cup_ne (by omega)]; exact (hG.2.2.1 i hi).2.2.2.1
          · rw [cup_ne (by omega), cup_ne (by omega)]; exact ⟨(hG.2.2.1 i hi).2.2.2.2.1.1, Or.inr rfl⟩
        · exfalso; omega
      · rcases hm with ⟨w', -⟩ | ⟨w', o'⟩
        · exfalso
          cases hq : ma.testBit B with
          | true => exact w' (i6.1.mpr hq)
          | false => exact w (i6.2.mpr hq)
        · obtain ⟨u1, u2⟩ := oI o
          obtain ⟨v1, v2⟩ := oI o'
          exact ⟨by omega, opr_st hC hG u1 v1⟩
theorem ride_op (hC : CT c d np nq N) (hG : GD c np nq N) (h : zr sv L n 313 0 lf [] c (c', some (0, r))) (h0 : lf 0 = (4, 0)) (h1 : lf 1 = (0, a)) (h' : zr sv L n' 314 0 lf' [] d (d', some (0, r'))) (h0' : lf' 0 = (4, 253)) (h1' : lf' 1 = (0, a)) : r = r' ∧ OPR c' d' np nq c d := by
  obtain ⟨⟨h5, h6, hN⟩, -⟩ := id hC
  have l0 := csgnl (z := a - 0)
  have g6 := csgng (z := a - 60)
  rcases t_ride h h0 h1 with ⟨z, o⟩ | ⟨z, o⟩
  · rcases m_ride h' h0' h1' with ⟨z', o'⟩ | ⟨z', o'⟩
    · obtain ⟨u1, u2⟩ := oI o
      obtain ⟨v1, v2⟩ := oI o'
      exact ⟨by omega, opr_st hC hG u1 v1⟩
    · exfalso; omega
  · rcases m_ride h' h0' h1' with ⟨z', o'⟩ | ⟨z', o'⟩
    · exfalso; omega
    · obtain ⟨u1, u2⟩ := oI o
      obtain ⟨v1, v2⟩ := oI o'
      refine ⟨by omega, ?_⟩
      rw [u1, v1]
      have hC1 := hC.sset (j := 5) (by decide) a
      exact OPR.st ⟨N, hC1, hG.cel h5 h6 (fun k j k1 k2 => by rw [cup_ne (by omega)]) (fun i t hi => by rw [cup_ne (by omega)]) ⟨by rw [cup_ne (by omega)]; exact hG.1.1, by rw [cup_ne (by omega)]; exact hG.1.2.1, by rw [cup_at]; exact ⟨by omega, by omega⟩⟩ (fun i hi => by rw [cup_ne (by omega)]) hN (fun i hi => ⟨⟨by rw [cup_ne (by omega)], by rw [cup_ne (by omega)], by rw [cup_ne (by omega)]⟩, by rw [cup_ne (by omega)]; exact (hG.2.2.1 i hi).2.2.2.1, by rw [cup_ne (by omega)]; exact ⟨(hG.2.2.1 i hi).2.2.2.2.1.1, Or.inr rfl⟩⟩), ⟨fun x y _ i2 i3 => by rw [cup_ne (by omega)], fun i hi => by rw [cup_ne (by omega)]⟩, fun x y i1 _ => by rw [cup_ne (by omega)], fun y hy => by rw [cup_ne (by omega)]⟩ _ _
end Ops2
end
