/-! what an OATH leaves: the class, the reference -/
def EC (c c' : cg) (N W P Q T : Nat) (fe : Int) (st : Nat → Bool) (sn : Bool) : Prop := (∀ k j : Nat, ¬ (k = 3 ∧ 8 ≤ j ∧ j ≤ 9) → (k < 17 ∨ 45 ≤ k) → c' k j = c k j) ∧ (∀ i : Nat, i < 6 → (∀ j : Nat, ¬ (i = W ∧ j = 1) → c' (17 + 2 * i) j = c (17 + 2 * i) j) ∧ ∀ t : Nat, c' (18 + 2 * i) t = c (18 + 2 * i) t) ∧ (c' (17 + 2 * W) 1 = w32 (c (17 + 2 * W) 1 - fe) ∧ c' 3 8 = w32 (c 3 8 + fe) ∧ c' 3 9 = ((N + 1 : Nat) : Int)) ∧ (∀ i : Nat, i < N → (∀ j : Nat, j ≠ 5 → c' (29 + i) j = c (29 + i) j) ∧ c' (29 + i) 5 = cond (st i) 1 (c (29 + i) 5)) ∧ (c' (29 + N) 0 = (W : Int) ∧ c' (29 + N) 1 = (P : Int) ∧ c' (29 + N) 2 = (Q : Int) ∧ c' (29 + N) 3 = (T : Int) ∧ c' (29 + N) 4 = fe ∧ c' (29 + N) 5 = cond sn 1 0 ∧ c' (29 + N) 6 = 0)
def EM (d d' : cg) (N W P Q T : Nat) (fe : Int) (st : Nat → Bool) (sn : Bool) : Prop := (∀ k j : Nat, k ≠ 254 → d' k j = d k j) ∧ (∀ j : Nat, j ≠ 2 → j ≠ 6 → j ≠ 15 + 6 * W → ¬ (99 + 8 * N ≤ j ∧ j ≤ 105 + 8 * N) → (∀ i : Nat, i < N → j ≠ 104 + 8 * i) → d' 254 j = d 254 j) ∧ (d' 254 (15 + 6 * W) = w32 (d 254 (15 + 6 * W) - fe) ∧ d' 254 6 = w32 (d 254 6 + fe) ∧ d' 254 2 = ((N + 1 : Nat) : Int)) ∧ (∀ i : Nat, i < N → d' 254 (104 + 8 * i) = cond (st i) 1 (d 254 (104 + 8 * i))) ∧ (d' 254 (99 + 8 * N) = (W : Int) ∧ d' 254 (100 + 8 * N) = (P : Int) ∧ d' 254 (101 + 8 * N) = (Q : Int) ∧ d' 254 (102 + 8 * N) = (T : Int) ∧ d' 254 (103 + 8 * N) = fe ∧ d' 254 (104 + 8 * N) = cond sn 1 0 ∧ d' 254 (105 + 8 * N) = 0)
theorem ce {c c' d d' : cg} {np nq N W P Q T : Nat} {fe : Int} {st : Nat → Bool} {sn : Bool} (h : CT c d np nq N) (hN : N ≤ 15) (hW : W < nq) (hc : EC c c' N W P Q T fe st sn) (hd : EM d d' N W P Q T fe st sn) : CT c' d' np nq (N + 1) := by
  obtain ⟨⟨a1, a2, a3⟩, ⟨b1, b2, b3⟩, ⟨c1, c2, c3⟩, ⟨d1, d2, d3, d4⟩, h5, h6, h7⟩ := h
  obtain ⟨e1, e2, ⟨e3, e4, e5⟩, e6, e7, e8, e9, e10, e11, e12, e13⟩ := hc
  obtain ⟨f1, f2, ⟨f3, f4, f5⟩, f6, f7, f8, f9, f10, f11, f12, f13⟩ := hd
  have D : ∀ j : Nat, j ≠ 2 → j ≠ 6 → j ≠ 15 + 6 * W → j < 99 → d' 254 j = d 254 j := fun j i1 i2 i3 i4 => f2 j i1 i2 i3 (by omega) (fun i hi => by omega)
  have C : ∀ k j : Nat, ¬ (k = 3 ∧ 8 ≤ j ∧ j ≤ 9) → k < 17 → c' k j = c k j := fun k j i1 i2 => e1 k j i1 (Or.inl i2)
  refine ⟨⟨a1, a2, by omega⟩, ⟨by rw [C _ _ (by omega) (by omega)]; exact b1, by rw [C _ _ (by omega) (by omega)]; exact b2, e5⟩, ⟨by rw [D _ (by omega) (by omega) (by omega) (by omega)]; exact c1, by rw [D _ (by omega) (by omega) (by omega) (by omega)]; exact c2, f5⟩, ⟨by rw [C _ _ (by omega) (by omega), D _ (by omega) (by omega) (by omega) (by omega)]; exact d1, by rw [C _ _ (by omega) (by omega), D _ (by omega) (by omega) (by omega) (by omega)]; exact d2, by rw [C _ _ (by omega) (by omega), D _ (by omega) (by omega) (by omega) (by omega)]; exact d3, by rw [e4, f4, d4]⟩, fun i hi => by rw [C _ _ (by omega) (by omega), D _ (by omega) (by omega) (by omega) (by omega)]; exact h5 i hi, fun i hi => ?_, fun k hk j hj => ?_⟩
  · obtain ⟨⟨p1, p2, p3, p4, p5⟩, p6⟩ := h6 i hi
    obtain ⟨g1, g2⟩ := e2 i (by omega)
    refine ⟨⟨?_, ?_, ?_, ?_, ?_⟩, fun t ht => ?_⟩
    · by_cases e : i = W
      · rw [e, f3, e3, ← e, p1]
      · rw [D _ (by omega) (by omega) (by omega) (by omega), g1 1 (by omega)]; exact p1
    · rw [D _ (by omega) (by omega) (by omega) (by omega), g1 2 (by omega)]; exact p2
    · rw [D _ (by omega) (by omega) (by omega) (by omega), g1 3 (by omega)]; exact p3
    · rw [D _ (by omega) (by omega) (by omega) (by omega), g1 4 (by omega)]; exact p4
    · rw [D _ (by omega) (by omega) (by omega) (by omega), g1 5 (by omega)]; exact p5
    · unfold trh
      rw [D _ (by omega) (by omega) (by omega) (by omega), g2 t]; exact p6 t ht
  · by_cases e : k = N
    · subst e
      rcases (show j = 0 ∨ j = 1 ∨ j = 2 ∨ j = 3 ∨ j = 4 ∨ j = 5 ∨ j = 6 from by omega) with e | e | e | e | e | e | e <;> subst e
      · rw [e7, show 99 + 8 * k + 0 = 99 + 8 * k by omega, f7]
      · rw [e8, show 99 + 8 * k + 1 = 100 + 8 * k by omega, f8]
      · rw [e9, show 99 + 8 * k + 2 = 101 + 8 * k by omega, f9]
      · rw [e10, show 99 + 8 * k + 3 = 102 + 8 * k by omega, f10]
      · rw [e11, show 99 + 8 * k + 4 = 103 + 8 * k by omega, f11]
      · rw [e12, show 99 + 8 * k + 5 = 104 + 8 * k by omega, f12]
      · rw [e13, show 99 + 8 * k + 6 = 105 + 8 * k by omega, f13]
    · obtain ⟨g1, g2⟩ := e6 k (by omega)
      have q := h7 k (by omega) j hj
      by_cases e' : j = 5
      · subst e'
        rw [show 99 + 8 * k + 5 = 104 + 8 * k by omega] at q ⊢
        rw [g2, f6 k (by omega), q]
      · rw [g1 j e', f2 _ (by omega) (by omega) (by omega) (by omega) (fun i hi => by omega)]
        exact q
theorem gde {c c' : cg} {np nq N W P Q T : Nat} {fe : Int} {st : Nat → Bool} {sn : Bool} (h5 : np ≤ 5) (h6 : nq ≤ 6) (hG : GD c np nq N) (hN : N ≤ 15) (hW : W < nq) (hP : P < nq) (hQ : Q < np) (hT : T < 8) (hf : 0 ≤ fe ∧ fe ≤ 2000 ∧ fe ≤ c (17 + 2 * W) 1) (hs : ∀ k : Nat, k < N → spk c W P T k = false) (hc : EC c c' N W P Q T fe st sn) : GD c' np nq (N + 1) := by
  obtain ⟨⟨b1, b2, b3⟩, b4, b5, b6, b7⟩ := hG
  obtain ⟨e1, e2, ⟨e3, e4, e5⟩, e6, e7, e8, e9, e10, e11, e12, e13⟩ := hc
  have C : ∀ k j : Nat, ¬ (k = 3 ∧ 8 ≤ j ∧ j ≤ 9) → k < 17 → c' k j = c k j := fun k j i1 i2 => e1 k j i1 (Or.inl i2)
  have o : ∀ i : Nat, i < N → ohw c' i = ohw c i ∧ ohp c' i = ohp c i ∧ ohq c' i = ohq c i ∧ oht c' i = oht c i := fun i hi => by
    obtain ⟨g1, -⟩ := e6 i hi
    unfold ohw ohp ohq oht
    rw [g1 0 (by decide), g1 1 (by decide), g1 2 (by decide), g1 3 (by decide)]
    exact ⟨rfl, rfl, rfl, rfl⟩
  have oN : ohw c' N = W ∧ ohp c' N = P ∧ ohq c' N = Q ∧ oht c' N = T := by
    unfold ohw ohp ohq oht
    rw [e7, e8, e9, e10]
    exact ⟨rfl, rfl, rfl, rfl⟩
  have hst : ∀ i : Nat, i < N → ohs c' i = 0 → ohs c i = 0 := fun i hi e => by
    have g2 := (e6 i hi).2
    unfold ohs at *
    rw [g2] at e
    cases hb : st i with
    | true => rw [hb] at e; have e : (1 : Int) = 0 := e; omega
    | false => rw [hb] at e; exact e
  have hr : cnt (rfd c') (N + 1) = cnt (rfd c) N := by
    rw [cnt_n (show rfd c' N = false from decide_eq_false (by rw [e13]; exact fun q => q rfl))]
    exact cntr (fun i hi => (e6 i hi).1 6 (by decide))
  have tr : ∀ p t : Nat, p < 6 → trh c' p t = trh c p t := fun p t hp => (e2 p hp).2 t
  refine ⟨⟨by rw [C _ _ (by omega) (by omega)]; exact b1, by rw [C _ _ (by omega) (by omega)]; exact b2, by rw [C _ _ (by omega) (by omega)]; exact b3⟩, fun i hi => by rw [C _ _ (by omega) (by omega)]; exact b4 i hi, fun i hi => ?_, fun k hk => ?_, fun i k hi hk => ?_⟩
  · obtain ⟨p1, p2, p3, p4, p5, p6⟩ := b5 i hi
    obtain ⟨g1, g2⟩ := e2 i (by omega)
    refine ⟨by rw [g1 2 (by omega)]; exact p1, by rw [g1 3 (by omega)]; exact p2, by rw [g1 4 (by omega)]; exact p3, by rw [g1 5 (by omega)]; exact p4, ?_, fun t ht => by rw [tr i t (by omega)]; exact p6 t ht⟩
    rw [hr]
    have cl := cnt_le (f := rfd c) N
    by_cases e : i = W
    · rw [e] at p5 ⊢
      rw [e3, w32_id (by omega) (by omega)]
      omega
    · rw [g1 1 (by omega)]; exact p5
  · by_cases e : k = N
    · subst e
      refine ⟨by rw [e7]; omega, by rw [e8]; omega, by rw [e9]; omega, by rw [e10]; omega, by rw [e11]; omega, ?_, Or.inl e13, fun _ q => absurd e13 q⟩
      rw [e12]
      cases sn
      · exact Or.inl rfl
      · exact Or.inr (Or.inl rfl)
    · obtain ⟨g1, g2⟩ := e6 k (by omega)
      obtain ⟨p0, p1, p2, p3, p4, p5, p6, p7⟩ := b6 k (by omega)
      obtain ⟨o0, o1, o2, o3⟩ := o k (by omega)
      obtain ⟨-, l0, l1, l2, l3⟩ := (b6 k (by omega)).v h5 h6
      refine ⟨by rw [g1 0 (by decide)]; exact p0, by rw [g1 1 (by decide)]; exact p1, by rw [g1 2 (by decide)]; exact p2, by rw [g1 3 (by decide)]; exact p3, by rw [g1 4 (by decide)]; exact p4, ?_, by rw [g1 6 (by decide)]; exact p6, fun x y => ?_⟩
      · rw [g2]
        cases st k
        · exact p5
        · exact Or.inr (Or.inl rfl)
      · rw [g1 6 (by decide)] at y
        rw [o1, o3, o2, tr _ _ (by omega)]
        exact p7 (hst k (by omega) x) y
  · intro x y
    obtain ⟨o0, o1, o2, o3⟩ := o i (by omega)
    by_cases e : k = N
    · subst e
      rw [o1, o3, o0, oN.1, oN.2.1, oN.2.2.2]
      intro z1 z2 z3
      have := hs i hi
      rw [spk_i.mpr ⟨hst i hi x, z1, z2, z3⟩] at this
      cases this
    · obtain ⟨q0, q1, q2, q3⟩ := o k (by omega)
      rw [o1, q1, o3, q3, o0, q0]
      exact b7 i k hi (by omega) (hst i (by omega) x) (hst k (by omega) y)
section Ent2
variable {sv : Nat → Int32} {L : Nat} {n : Nat} {lf : dlf} {c d : cg} {o : cg × Option cv} {np nq N W P Q T : Nat} {fe : Int}
theorem enter_ok (hG : GD c np nq N) (h5 : np ≤ 5) (h6 : nq ≤ 6) (hN16 : N ≤ 15) (hN : c 3 9 = (N : Int)) (hW : W < nq) (hP : P < nq) (hQ : Q < np) (hT : T < 8) (h : zr sv L n 103 0 lf [] c o) (h0 : lf 0 = (4, 3)) (h1 : lf 1 = (0, (W : Int))) (h2 : lf 2 = (0, (P : Int))) (h3 : lf 3 = (0, (Q : Int))) (h4 : lf 4 = (0, (T : Int))) (hfe : lf 5 = (0, fe)) : ∃ c', o = (c', some (0, (N : Int))) ∧ EC c c' N W P Q T fe (voy c N W P Q T) (von c N P Q T) := by
  obtain ⟨g1, r1, k1, lf1, a0, a1, a2, a3, a4, a5, a6, h⟩ := t_ent0 (by omega) (by omega) (by omega) (by omega) hN16 hN h h0 h1 h2 h3 h4 hfe
  obtain ⟨m, hm, m1, m2, m3⟩ := struck_ok hG h5 h6 (by omega) hN hW hP hQ hT k1 rfl rfl rfl rfl rfl
  obtain ⟨u1, u2⟩ := oI hm
  rw [u1] at h
  rw [u2] at a6
  obtain ⟨lf2, b0, b6, b8, h⟩ := t_ent25 (by omega) (by omega) (by omega) (by omega) hN16 hN rfl h a0 a1 a2 a3 a4 a5 a6
  have C0 : ∀ k j : Nat, k ≠ 29 + N → ¬ (k = 17 + 2 * W ∧ j = 1) → ¬ (k = 3 ∧ 8 ≤ j ∧ j ≤ 9) → cup (cup (cup (cup (cup (cup (cup (cup (cup (cup (cup c (29 + N) 0 ((W : Int))) (29 + N) 1 ((P : Int))) (29 + N) 2 ((Q : Int))) (29 + N) 3 ((T : Int))) (29 + N) 4 fe) (29 + N) 5 0) (29 + N) 6 0) (29 + N) 7 0) (17 + 2 * W) 1 (w32 (c (17 + 2 * W) 1 - fe))) 3 8 (w32 ((c 3 8) + fe))) 3 9 (1 + (N : Int)) k j = c k j := fun k j i1 i2 i3 => by
    rw [cup_ne (by omega), cup_ne (by omega), cup_ne i2, cup_ne (by omega), cup_ne (by omega), cup_ne (by omega), cup_ne (by omega), cup_ne (by omega), cup_ne (by omega), cup_ne (by omega), cup_ne (by omega)]
  have N0 : ∀ j : Nat, cup (cup (cup (cup (cup (cup (cup (cup (cup (cup (cup c (29 + N) 0 ((W : Int))) (29 + N) 1 ((P : Int))) (29 + N) 2 ((Q : Int))) (29 + N) 3 ((T : Int))) (29 + N) 4 fe) (29 + N) 5 0) (29 + N) 6 0) (29 + N) 7 0) (17 + 2 * W) 1 (w32 (c (17 + 2 * W) 1 - fe))) 3 8 (w32 ((c 3 8) + fe))) 3 9 (1 + (N : Int)) (29 + N) j = cup (cup (cup (cup (cup (cup (cup (cup c (29 + N) 0 ((W : Int))) (29 + N) 1 ((P : Int))) (29 + N) 2 ((Q : Int))) (29 + N) 3 ((T : Int))) (29 + N) 4 fe) (29 + N) 5 0) (29 + N) 6 0) (29 + N) 7 0 (29 + N) j := fun j => by
    rw [cup_ne (by omega), cup_ne (by omega), cup_ne (by omega)]
  have n0 := (N0 0).trans (by rw [cup_ne (by omega), cup_ne (by omega), cup_ne (by omega), cup_ne (by omega), cup_ne (by omega), cup_ne (by omega), cup_ne (by omega), cup_at] : _ = (W : Int))
  have n1 := (N0 1).trans (by rw [cup_ne (by omega), cup_ne (by omega), cup_ne (by omega), cup_ne (by omega), cup_ne (by omega), cup_ne (by omega), cup_at] : _ = (P : Int))
  have n2 := (N0 2).trans (by rw [cup_ne (by omega), cup_ne (by omega), cup_ne (by omega), cup_ne (by omega), cup_ne (by omega), cup_at] : _ = (Q : Int))
  have n3 := (N0 3).trans (by rw [cup_ne (by omega), cup_ne (by omega), cup_ne (by omega), cup_ne (by omega), cup_at] : _ = (T : Int))
  have n4 := (N0 4).trans (by rw [cup_ne (by omega), cup_ne (by omega), cup_ne (by omega), cup_at] : _ = fe)
  have n5 := (N0 5).trans (by rw [cup_ne (by omega), cup_ne (by omega), cup_at] : _ = (0 : Int))
  have n6 := (N0 6).trans (by rw [cup_ne (by omega), cup_at] : _ = (0 : Int))
  have n9 : cup (cup (cup (cup (cup (cup (cup (cup (cup (cup (cup c (29 + N) 0 ((W : Int))) (29 + N) 1 ((P : Int))) (29 + N) 2 ((Q : Int))) (29 + N) 3 ((T : Int))) (29 + N) 4 fe) (29 + N) 5 0) (29 + N) 6 0) (29 + N) 7 0) (17 + 2 * W) 1 (w32 (c (17 + 2 * W) 1 - fe))) 3 8 (w32 ((c 3 8) + fe))) 3 9 (1 + (N : Int)) 3 9 = ((N + 1 : Nat) : Int) := by rw [cup_at]; omega
  have n8 : cup (cup (cup (cup (cup (cup (cup (cup (cup (cup (cup c (29 + N) 0 ((W : Int))) (29 + N) 1 ((P : Int))) (29 + N) 2 ((Q : Int))) (29 + N) 3 ((T : Int))) (29 + N) 4 fe) (29 + N) 5 0) (29 + N) 6 0) (29 + N) 7 0) (17 + 2 * W) 1 (w32 (c (17 + 2 * W) 1 - fe))) 3 8 (w32 ((c 3 8) + fe))) 3 9 (1 + (N : Int)) 3 8 = w32 (c 3 8 + fe) := by rw [cup_ne (by omega), cup_at]
  have np1 : cup (cup (cup (cup (cup (cup (cup (cup (cup (cup (cup c (29 + N) 0 ((W : Int))) (29 + N) 1 ((P : Int))) (29 + N) 2 ((Q : Int))) (29 + N) 3 ((T : Int))) (29 + N) 4 fe) (29 + N) 5 0) (29 + N) 6 0) (29 + N) 7 0) (17 + 2 * W) 1 (w32 (c (17 + 2 * W) 1 - fe))) 3 8 (w32 ((c 3 8) + fe))) 3 9 (1 + (N : Int)) (17 + 2 * W) 1 = w32 (c (17 + 2 * W) 1 - fe) := by rw [cup_ne (by omega), cup_ne (by omega), cup_at]
  generalize cup (cup (cup (cup (cup (cup (cup (cup (cup (cup (cup c (29 + N) 0 ((W : Int))) (29 + N) 1 ((P : Int))) (29 + N) 2 ((Q : Int))) (29 + N) 3 ((T : Int))) (29 + N) 4 fe) (29 + N) 5 0) (29 + N) 6 0) (29 + N) 7 0) (17 + 2 * W) 1 (w32 (c (17 + 2 * W) 1 - fe))) 3 8 (w32 ((c 3 8) + fe))) 3 9 (1 + (N : Int)) = c1 at h C0 n0 n1 n2 n3 n4 n5 n6 n8 n9 np1
  clear N0
  refine zloop (fun k lf g => k ≤ N + 1 ∧ lf 0 = (4, 3) ∧ lf 6 = (0, (m : Int)) ∧ lf 8 = (0, (k : Int)) ∧ (∀ i j : Nat, ¬ (29 ≤ i ∧ i < 29 + k ∧ j = 5) → g i j = c1 i j) ∧ ∀ i : Nat, i < k → g (29 + i) 5 = cond (m.testBit i) 1 (c1 (29 + i) 5)) _ ?_ n 0 lf2 c1 ⟨by omega, b0, b6, b8, fun _ _ _ => rfl, fun i hi => absurd hi (Nat.not_lt_zero i)⟩ h
  intro n k lf g ⟨hk, d0, d6, d8, e1, e2⟩ h
  have gN : g 3 9 = ((N + 1 : Nat) : Int) := by rw [e1 3 9 (by omega)]; exact n9
  by_cases hlt : k < N + 1
  · have hb := bbit (a := m) (s := k) m1 (by omega)
    rcases t_ent_s (by omega) (by omega) gN hlt h d0 d6 d8 with ⟨z, lf3, y0, y6, y8, h⟩ | ⟨z, lf3, y0, y6, y8, h⟩
    · rw [hb] at z
      have e : m.testBit k = false := bf (fun q => by rw [q] at z; exact absurd z (by decide))
      refine Or.inr ⟨lf3, g, ⟨by omega, y0, y6, by rw [y8]; exact congrArg _ (Int.add_comm _ _), fun i j i1 => e1 i j (by omega), fun i hi => ?_⟩, h⟩
      by_cases q : i = k
      · rw [q, e]; exact e1 _ _ (by omega)
      · exact e2 i (by omega)
    · rw [hb] at z
      have e : m.testBit k = true := by
        cases hq : m.testBit k with
        | true => rfl
        | false => rw [hq] at z; exact absurd rfl z
      refine Or.inr ⟨lf3, _, ⟨by omega, y0, y6, by rw [y8]; exact congrArg _ (Int.add_comm _ _), fun i j i1 => by rw [cup_ne (by omega)]; exact e1 i j (by omega), fun i hi => ?_⟩, h⟩
      by_cases q : i = k
      · rw [q, e, cup_at]; rfl
      · rw [cup_ne (by omega)]; exact e2 i (by omega)
  · have ek : k = N + 1 := by omega
    subst ek
    refine Or.inl ⟨g, by rw [t_ent_e (by omega) (by omega) gN (Nat.le_refl _) h d0 d6 d8]; exact congrArg (fun z => (g, some ((0 : Nat), z))) (by omega), ⟨fun i j i1 i2 => by rw [e1 i j (by omega)]; exact C0 i j (by omega) (by omega) i1, fun i hi => ⟨fun j hj => by rw [e1 _ _ (by omega)]; exact C0 _ _ (by omega) (by omega) (by omega), fun t => by rw [e1 _ _ (by omega)]; exact C0 _ _ (by omega) (by omega) (by omega)⟩, ⟨by rw [e1 _ _ (by omega)]; exact np1, by rw [e1 _ _ (by omega)]; exact n8, gN⟩, fun i hi => ⟨fun j hj => by rw [e1 _ _ (by omega)]; exact C0 _ _ (by omega) (by omega) (by omega), ?_⟩, by rw [e1 _ _ (by omega)]; exact n0, by rw [e1 _ _ (by omega)]; exact n1, by rw [e1 _ _ (by omega)]; exact n2, by rw [e1 _ _ (by omega)]; exact n3, by rw [e1 _ _ (by omega)]; exact n4, ?_, by rw [e1 _ _ (by omega)]; exact n6⟩⟩
    · rw [e2 i (by omega), C0 _ _ (by omega) (by omega) (by omega), show m.testBit i = voy c N W P Q T i from Bool.eq_iff_iff.mpr (m2 i hi)]
    · rw [e2 N (by omega), n5, show m.testBit N = von c N P Q T from Bool.eq_iff_iff.mpr m3]
end Ent2
section Ent3
variable {sv : Nat → Int32} {L : Nat} {n : Nat} {lf : dlf} {c d : cg} {o : cg × Option cv} {np nq N W P Q T : Nat}
/-- the OATHS ahead, as they are while an OATH is entered: the state apart -/
theorem om_st {c d g : cg} {N : Nat} {s : Int} {k : Nat} (hR : OHR c d N) (hk : k < N) (h : ∀ j : Nat, 99 ≤ j → j < 99 + 8 * N → (∀ i : Nat, i < N → j ≠ 104 + 8 * i) → g 254 j = d 254 j) (hs : g 254 (104 + 8 * k) = s) : OHM g k (ohw c k) (ohp c k) (ohq c k) (oht c k) (c (29 + k) 4) s (c (29 + k) 6) := by
  obtain ⟨a0, a1, a2, a3, a4, a5, a6⟩ := hR k hk
  exact ⟨by rw [h _ (by omega) (by omega) (fun i hi => by omega)]; exact a0, by rw [h _ (by omega) (by omega) (fun i hi => by omega)]; exact a1, by rw [h _ (by omega) (by omega) (fun i hi => by omega)]; exact a2, by rw [h _ (by omega) (by omega) (fun i hi => by omega)]; exact a3, by rw [h _ (by omega) (by omega) (fun i hi => by omega)]; exact a4, hs, by rw [h _ (by omega) (by omega) (fun i hi => by omega)]; exact a6⟩
/-- what the reference's cells are, as it goes on -/
def ESw (d g : cg) (N W P Q T : Nat) (fe : Int) (st : Nat → Bool) : Prop := EM d g N W P Q T fe st false
theorem EM.void {d g : cg} {N W P Q T k : Nat} {fe : Int} {st st' : Nat → Bool} (h : EM d g N W P Q T fe st false) (hk : k < N) (hW : W ≤ 5) (h1 : st' k = true) (h2 : ∀ i : Nat, i ≠ k → st' i = st i) : EM d (cup g 254 (104 + 8 * k) 1) N W P Q T fe st' false := by
  obtain ⟨f1, f2, ⟨f3, f4, f5⟩, f6, f7, f8, f9, f10, f11, f12, f13⟩ := h
  have D : ∀ j : Nat, j ≠ 104 + 8 * k → cup g 254 (104 + 8 * k) 1 254 j = g 254 j := fun j hj => cup_ne (by omega)
  refine ⟨fun x y hx => by rw [cup_ne (by omega)]; exact f1 x y hx, fun j i1 i2 i3 i4 i5 => by rw [D _ (i5 k hk)]; exact f2 j i1 i2 i3 i4 i5, ⟨by rw [D _ (by omega)]; exact f3, by rw [D _ (by omega)]; exact f4, by rw [D _ (by omega)]; exact f5⟩, fun i hi => ?_, by rw [D _ (by omega)]; exact f7, by rw [D _ (by omega)]; exact f8, by rw [D _ (by omega)]; exact f9, by rw [D _ (by omega)]; exact f10, by rw [D _ (by omega)]; exact f11, by rw [D _ (by omega)]; exact f12, by rw [D _ (by omega)]; exact f13⟩
  by_cases e : i = k
  · rw [e, cup_at, h1]; rfl
  · rw [D _ (by omega), h2 i e]; exact f6 i hi
theorem EM.st {d g : cg} {N W P Q T : Nat} {fe : Int} {st st' : Nat → Bool} {sn : Bool} (h : EM d g N W P Q T fe st sn) (e : ∀ i : Nat, i < N → st' i = st i) : EM d g N W P Q T fe st' sn := by
  obtain ⟨f1, f2, f3, f6, f7⟩ := h
  exact ⟨f1, f2, f3, fun i hi => by rw [e i hi]; exact f6 i hi, f7⟩
theorem swears_ok (hC : CT c d np nq N) (hG : GD c np nq N) (hN15 : N ≤ 15) (hW : W < nq) (hP : P < nq) (hQ : Q < np) (hT : T < 8) (h : zr sv L n 228 0 lf [] d o) (h0 : lf 0 = (4, 253)) (h1 : lf 1 = (0, (W : Int))) (h2 : lf 2 = (0, (P : Int))) (h3 : lf 3 = (0, (Q : Int))) (h4 : lf 4 = (0, (T : Int))) : ∃ d', o = (d', none) ∧ EM d d' N W P Q T (fees c N W P Q T) (voy c N W P Q T) (von c N P Q T) := by
  obtain ⟨⟨h5, h6, -⟩, ⟨-, -, cN⟩, ⟨-, -, dN⟩, ⟨d3, d4, d5, d6⟩, hm, hS, -⟩ := id hC
  have hV := hG.hv h5 h6
  have hR := hC.hr hG
  obtain ⟨⟨-, -, s0⟩, ml, gp, go, hU⟩ := id hG
  obtain ⟨g1, r1, k1, lf1, a0, a1, a2, a3, a4, a5, a6, a7, h⟩ := m_swr0 (by omega) (by omega) (by omega) (by omega) hN15 dN h h0 h1 h2 h3 h4
  obtain ⟨u1, u2⟩ := oI (m_fee_ok (nq := nq) (by omega) (by omega) (by omega) (by omega) (by omega) dN hV hR hU hS hW hP ⟨d3, d4⟩ k1 rfl rfl rfl rfl rfl)
  rw [u1] at h
  rw [u2] at a7
  generalize fees c N W P Q T = fe at a7
  have hm1 := (hS W hW).1
  have pu : d 254 (15 + 6 * W) = c (17 + 2 * W) 1 := hm1.1
  -- behind the writing
  have E0 : EM d (cup (cup (cup (cup (cup (cup (cup (cup (cup (cup d 254 (99 + 8 * N) ((W : Int))) 254 (100 + 8 * N) ((P : Int))) 254 (101 + 8 * N) ((Q : Int))) 254 (102 + 8 * N) ((T : Int))) 254 (103 + 8 * N) fe) 254 (104 + 8 * N) 0) 254 (105 + 8 * N) 0) 254 (15 + 6 * W) (w32 (c (17 + 2 * W) 1 - fe))) 254 6 (w32 ((d 254 6) + fe))) 254 2 (1 + (N : Int))) N W P Q T fe (fun _ => false) false := by
    refine ⟨fun k j hk => by rw [cup_ne (by omega), cup_ne (by omega), cup_ne (by omega), cup_ne (by omega), cup_ne (by omega), cup_ne (by omega), cup_ne (by omega), cup_ne (by omega), cup_ne (by omega), cup_ne (by omega)], fun j i1 i2 i3 i4 _ => by rw [cup_ne (by omega), cup_ne (by omega), cup_ne (by omega), cup_ne (by omega), cup_ne (by omega), cup_ne (by omega), cup_ne (by omega), cup_ne (by omega), cup_ne (by omega), cup_ne (by omega)], ⟨by rw [cup_ne (by omega), cup_ne (by omega), cup_at, pu], by rw [cup_ne (by omega), cup_at], by rw [cup_at]; omega⟩, fun i hi => ?_, ?_, ?_, ?_, ?_, ?_, ?_, ?_⟩
    · show _ = d 254 (104 + 8 * i)
      rw [cup_ne (by omega), cup_ne (by omega), cup_ne (by omega), cup_ne (by omega), cup_ne (by omega), cup_ne (by omega), cup_ne (by omega), cup_ne (by omega), cup_ne (by omega), cup_ne (by omega)]
    · rw [cup_ne (by omega), cup_ne (by omega), cup_ne (by omega), cup_ne (by omega), cup_ne (by omega), cup_ne (by omega), cup_ne (by omega), cup_ne (by omega), cup_ne (by omega), cup_at]
    · rw [cup_ne (by omega), cup_ne (by omega), cup_ne (by omega), cup_ne (by omega), cup_ne (by omega), cup_ne (by omega), cup_ne (by omega), cup_ne (by omega), cup_at]
    · rw [cup_ne (by omega), cup_ne (by omega), cup_ne (by omega), cup_ne (by omega), cup_ne (by omega), cup_ne (by omega), cup_ne (by omega), cup_at]
    · rw [cup_ne (by omega), cup_ne (by omega), cup_ne (by omega), cup_ne (by omega), cup_ne (by omega), cup_ne (by omega), cup_at]
    · rw [cup_ne (by omega), cup_ne (by omega), cup_ne (by omega), cup_ne (by omega), cup_ne (by omega), cup_at]
    · show _ = (0 : Int)
      rw [cup_ne (by omega), cup_ne (by omega), cup_ne (by omega), cup_ne (by omega), cup_at]
    · rw [cup_ne (by omega), cup_ne (by omega), cup_ne (by omega), cup_at]
  have chv : c (17 + 2 * W) 2 = 0 ∨ c (17 + 2 * W) 2 = 1 := (gp W hW).1
  -- what GAINSAYs it
  have s1 : ∃ n lf g, lf 0 = (4, 253) ∧ lf 2 = (0, (P : Int)) ∧ lf 4 = (0, (T : Int)) ∧ lf 5 = (0, (N : Int)) ∧ EM d g N W P Q T fe (gsx c W P Q T) false ∧ zr sv L n 228 202 lf [] g o := by
    rcases m_swr26 (by omega) (by omega) (by omega) (by omega) hN15 dN hm1 h a0 a1 a2 a3 a4 a5 a6 a7 with ⟨z, lf2, b0, b2, b4, b5, h⟩ | ⟨z, lf2, b0, b1, b2, b3, b4, b5, b8, h⟩
    · exact ⟨n, lf2, _, b0, b2, b4, b5, E0.st (fun i _ => bf (fun q => by have := (gsx_i.mp q).2; omega)), h⟩
    · generalize cup (cup (cup (cup (cup (cup (cup (cup (cup (cup d 254 (99 + 8 * N) ((W : Int))) 254 (100 + 8 * N) ((P : Int))) 254 (101 + 8 * N) ((Q : Int))) 254 (102 + 8 * N) ((T : Int))) 254 (103 + 8 * N) fe) 254 (104 + 8 * N) 0) 254 (105 + 8 * N) 0) 254 (15 + 6 * W) (w32 (c (17 + 2 * W) 1 - fe))) 254 6 (w32 ((d 254 6) + fe))) 254 2 (1 + (N : Int)) = g0 at h E0
      refine zloop (fun k lf g => k ≤ N ∧ lf 0 = (4, 253) ∧ lf 1 = (0, (W : Int)) ∧ lf 2 = (0, (P : Int)) ∧ lf 3 = (0, (Q : Int)) ∧ lf 4 = (0, (T : Int)) ∧ lf 5 = (0, (N : Int)) ∧ lf 8 = (0, (k : Int)) ∧ EM d g N W P Q T fe (fun i => gsx c W P Q T i && decide (i < k)) false) _ ?_ n 0 lf2 g0 ⟨by omega, b0, b1, b2, b3, b4, b5, b8, E0.st (fun i _ => by rw [show decide (i < 0) = false from decide_eq_false (Nat.not_lt_zero i), Bool.and_false])⟩ h
      intro n k lf g ⟨hk, c0, c1, c2, c3, c4, c5, c8, hE⟩ h
      by_cases hlt : k < N
      · obtain ⟨v1, v2, v3, v4, v5⟩ := hV k hlt
        have sk : g 254 (104 + 8 * k) = ohs c k := by
          rw [hE.2.2.2.1 k hlt]
          dsimp only
          rw [show decide (k < k) = false from decide_eq_false (Nat.lt_irrefl k), Bool.and_false]
          exact (hR k hlt).2.2.2.2.2.1
        have om := om_st hR hlt (fun j i1 i2 i3 => hE.2.1 j (by omega) (by omega) (by omega) (by omega) i3) sk
        have hst : ∀ i : Nat, i ≠ k → (gsx c W P Q T i && decide (i < k + 1)) = (gsx c W P Q T i && decide (i < k)) := fun i hi => by
          by_cases q : i < k
          · rw [decide_eq_true q, decide_eq_true (show i < k + 1 by omega)]
          · rw [decide_eq_false q, decide_eq_false (show ¬ i < k + 1 by omega)]
        rcases m_swr151s (by omega) (by omega) (by omega) (by omega) v2 v3 v4 v5 (by omega) hN15 om hlt h c0 c1 c2 c3 c4 c5 c8 with ⟨y, lf3, w0, w1, w2, w3, w4, w5, w8, h⟩ | ⟨y, lf3, w0, w1, w2, w3, w4, w5, w8, h⟩
        · have hf : gsx c W P Q T k = false := bf (fun q => by
            have := gns_i.mp (gsx_i.mp q).1
            omega)
          exact Or.inr ⟨lf3, g, ⟨hlt, w0, w1, w2, w3, w4, w5, by rw [w8]; exact congrArg _ (Int.add_comm _ _), hE.st (fun i _ => by
            by_cases q : i = k
            · rw [q, hf, Bool.false_and, Bool.false_and]
            · exact hst i q)⟩, h⟩
        · have hf : gsx c W P Q T k = true := gsx_i.mpr ⟨gns_i.mpr (by omega), by omega⟩
          exact Or.inr ⟨lf3, _, ⟨hlt, w0, w1, w2, w3, w4, w5, by rw [w8]; exact congrArg _ (Int.add_comm _ _), hE.void hlt (by omega) (by rw [hf, decide_eq_true (show k < k + 1 by omega)]; rfl) hst⟩, h⟩
      · have ek : k = N := by omega
        subst ek
        obtain ⟨lf3, w0, w2, w4, w5, h⟩ := m_swr151e (by omega) (by omega) (by omega) (by omega) hN15 hN15 (Nat.le_refl _) h c0 c1 c2 c3 c4 c5 c8
        exact Or.inl ⟨n, lf3, g, w0, w2, w4, w5, hE.st (fun i hi => by rw [decide_eq_true hi, Bool.and_true]), h⟩
  obtain ⟨n, lf2, g, b0, b2, b4, b5, hE, h⟩ := s1
  have tv : ∀ {g : cg} {st : Nat → Bool} {sn : Bool}, EM d g N W P Q T fe st sn → ∀ p t : Nat, p < nq → t < 8 → g 254 (51 + 8 * p + t) = trh c p t := fun hE p t hp ht => by
    rw [hE.2.1 _ (by omega) (by omega) (by omega) (by omega) (fun i hi => by omega)]
    exact (hS p hp).2 t ht
  have newo : ∀ {g : cg} {st : Nat → Bool}, EM d g N W P Q T fe st false → OHM g N W P Q T fe 0 0 := fun hE => by
    obtain ⟨-, -, -, -, f7, f8, f9, f10, f11, f12, f13⟩ := hE
    exact ⟨f7, f8, f9, f10, f11, f12, f13⟩
  rcases m_swr202 (by omega) (by omega) (by omega) (by omega) hN15 (newo hE) (tv hE P T hP hT) h b0 b2 b4 b5 with ⟨z, lf3, e0, e2, e4, e5, e8, e9, h⟩ | ⟨z, e⟩
  · refine zloop (fun k lf g => k ≤ N ∧ lf 0 = (4, 253) ∧ lf 2 = (0, (P : Int)) ∧ lf 4 = (0, (T : Int)) ∧ lf 5 = (0, (N : Int)) ∧ lf 9 = (0, (k : Int)) ∧ EM d g N W P Q T fe (fun i => gsx c W P Q T i || (msx c P Q T i && decide (i < k))) false ∧ ∃ y : Int, lf 8 = (0, y) ∧ (y ≠ 0 ↔ 0 < cnt (msx c P Q T) k)) _ ?_ n 0 lf3 g ⟨by omega, e0, e2, e4, e5, e9, hE.st (fun i _ => by rw [show decide (i < 0) = false from decide_eq_false (Nat.not_lt_zero i), Bool.and_false, Bool.or_false]), 0, e8, ⟨fun q => absurd rfl q, fun q => absurd q (Nat.lt_irrefl 0)⟩⟩ h
    intro n k lf g ⟨hk, c0, c2, c4, c5, c9, hE, y, c8, hy⟩ h
    by_cases hlt : k < N
    · obtain ⟨v1, v2, v3, v4, v5⟩ := hV k hlt
      obtain ⟨-, l0, l1, l2, l3⟩ := (go k hlt).v h5 h6
      have sk : g 254 (104 + 8 * k) = cond (gsx c W P Q T k) 1 (ohs c k) := by
        rw [hE.2.2.2.1 k hlt]
        dsimp only
        rw [show decide (k < k) = false from decide_eq_false (Nat.lt_irrefl k), Bool.and_false, Bool.or_false]
        cases gsx c W P Q T k
        · exact (hR k hlt).2.2.2.2.2.1
        · rfl
      have om := om_st hR hlt (fun j i1 i2 i3 => hE.2.1 j (by omega) (by omega) (by omega) (by omega) i3) sk
      have hst : ∀ i : Nat, i ≠ k → (gsx c W P Q T i || (msx c P Q T i && decide (i < k + 1))) = (gsx c W P Q T i || (msx c P Q T i && decide (i < k))) := fun i hi => by
        by_cases q : i < k
        · rw [decide_eq_true q, decide_eq_true (show i < k + 1 by omega)]
        · rw [decide_eq_false q, decide_eq_false (show ¬ i < k + 1 by omega)]
      have gst : oht c k ≠ T → gsx c W P Q T k = false := fun e => bf (fun q => e (gns_i.mp (gsx_i.mp q).1).2.2.1)
      have skip : ∀ {lf3 : dlf} {g' : cg}, msx c P Q T k = false → g' = g → lf3 0 = (4, 253) → lf3 2 = (0, (P : Int)) → lf3 4 = (0, (T : Int)) → lf3 5 = (0, (N : Int)) → lf3 8 = (0, y) → lf3 9 = (0, 1 + (k : Int)) → k + 1 ≤ N ∧ lf3 0 = (4, 253) ∧ lf3 2 = (0, (P : Int)) ∧ lf3 4 = (0, (T : Int)) ∧ lf3 5 = (0, (N : Int)) ∧ lf3 9 = (0, ((k + 1 : Nat) : Int)) ∧ EM d g' N W P Q T fe (fun i => gsx c W P Q T i || (msx c P Q T i && decide (i < k + 1))) false ∧ ∃ y : Int, lf3 8 = (0, y) ∧ (y ≠ 0 ↔ 0 < cnt (msx c P Q T) (k + 1)) := by
        intro lf3 g' hf eg w0 w2 w4 w5 w8 w9
        rw [eg]
        exact ⟨hlt, w0, w2, w4, w5, by rw [w9]; exact congrArg _ (Int.add_comm _ _), hE.st (fun i _ => by
          by_cases q : i = k
          · rw [q, hf, Bool.false_and, Bool.false_and]
          · exact hst i q), y, w8, by rw [cnt_n hf]; exact hy⟩
      rcases m_swr218s (by omega) (by omega) (by omega) (by omega) v2 v3 v4 v5 (by omega) hN15 (newo hE) om (tv hE _ _ l1 l3) hlt h c0 c2 c4 c5 c8 c9 with ⟨x, lf4, w0, w2, w4, w5, w8, w9, h⟩ | ⟨x, g1, r1, kf, h⟩
      · have hf : msx c P Q T k = false := bf (fun q => by
          obtain ⟨q1, ⟨q2, q3, q4, q5⟩, -⟩ := msx_i.mp q
          rw [gst q4] at x
          have x : (ohs c k ≠ 0 ∨ (ohs c k = 0 ∧ trh c (ohp c k) (oht c k) ≠ (ohq c k : Int) ∧ (ohp c k : Int) ≠ (P : Int)) ∨ (ohs c k = 0 ∧ trh c (ohp c k) (oht c k) ≠ (ohq c k : Int) ∧ (ohp c k : Int) = (P : Int) ∧ (oht c k : Int) = (T : Int)) ∨ (ohs c k = 0 ∧ trh c (ohp c k) (oht c k) = (ohq c k : Int))) := x
          omega)
        exact Or.inr ⟨lf4, g, skip hf rfl w0 w2 w4 w5 w8 w9, h⟩
      · have nt : oht c k ≠ T := by omega
        have hg0 := gst nt
        rw [hg0] at x sk
        have x1 : ohs c k = 0 := x.1
        rcases m_fit_ok (x := c 4 (ohq c k)) (y := c 4 Q) (sp := c 3 7) v4 v5 (by omega) (by omega) (by rw [hE.2.1 _ (by omega) (by omega) (by omega) (by omega) (fun i hi => by omega)]; exact hm _ l2) (by rw [hE.2.1 _ (by omega) (by omega) (by omega) (by omega) (fun i hi => by omega)]; exact hm _ hQ) (by rw [hE.2.1 _ (by omega) (by omega) (by omega) (by omega) (fun i hi => by omega)]; exact d5) (ml _ l2) (ml _ hQ) s0 kf rfl rfl rfl rfl rfl with ⟨f1, f2⟩ | ⟨f1, f2⟩
        · obtain ⟨t1, t2⟩ := oI f2
          rw [t1, t2] at h
          have hf : msx c P Q T k = false := bf (fun q => (msx_i.mp q).2.2 f1)
          rcases h with ⟨w, -⟩ | ⟨w, -⟩ | ⟨w, lf4, w0, w2, w4, w5, w8, w9, h⟩
          · exact absurd w.1 (by decide)
          · exact absurd w.1 (by decide)
          · exact Or.inr ⟨lf4, g, skip hf rfl w0 w2 w4 w5 w8 w9, h⟩
        · obtain ⟨t1, t2⟩ := oI f2
          rw [t1, t2] at h
          have hf : msx c P Q T k = true := msx_i.mpr ⟨z, ⟨x1, by omega, nt, x.2.1⟩, f1⟩
          rcases h with ⟨w, -⟩ | ⟨w, lf4, w0, w2, w4, w5, w8, w9, h⟩ | ⟨w, -⟩
          · have w := w.2
            rw [sk] at w
            exact absurd x1 w
          · exact Or.inr ⟨lf4, _, ⟨hlt, w0, w2, w4, w5, by rw [w9]; exact congrArg _ (Int.add_comm _ _), hE.void hlt (by omega) (by rw [hf, decide_eq_true (show k < k + 1 by omega), Bool.and_true, Bool.or_true]) hst, 1, w8, ⟨fun _ => by rw [cnt_s hf]; omega, fun _ => by decide⟩⟩, h⟩
          · exact absurd rfl w
    · have ek : k = N := by omega
      subst ek
      have hE' : EM d g k W P Q T fe (voy c k W P Q T) false := hE.st (fun i hi => by rw [decide_eq_true hi, Bool.and_true]; rfl)
      rcases m_swr218e (by omega) (by omega) hN15 (by omega) (Nat.le_refl _) h c0 c2 c4 c5 c8 c9 with ⟨x, e⟩ | ⟨x, e⟩
      · have hv : von c k P Q T = false := decide_eq_false (fun q => by
          have := hy.mpr q
          rcases x with x | x
          · exact this x
          · exact x.2 (newo hE').2.2.2.2.2.1)
        rw [hv]
        exact Or.inl ⟨g, e, hE'⟩
      · have hv : von c k P Q T = true := decide_eq_true (hy.mp x.1)
        rw [hv]
        obtain ⟨f1, f2, ⟨f3, f4, f5⟩, f6, f7, f8, f9, f10, f11, f12, f13⟩ := hE'
        have D : ∀ j : Nat, j ≠ 104 + 8 * k → cup g 254 (104 + 8 * k) 1 254 j = g 254 j := fun j hj => cup_ne (by omega)
        exact Or.inl ⟨_, e, fun x y hx => by rw [cup_ne (by omega)]; exact f1 x y hx, fun j i1 i2 i3 i4 i5 => by rw [D _ (by omega)]; exact f2 j i1 i2 i3 i4 i5, ⟨by rw [D _ (by omega)]; exact f3, by rw [D _ (by omega)]; exact f4, by rw [D _ (by omega)]; exact f5⟩, fun i hi => by rw [D _ (by omega)]; exact f6 i hi, by rw [D _ (by omega)]; exact f7, by rw [D _ (by omega)]; exact f8, by rw [D _ (by omega)]; exact f9, by rw [D _ (by omega)]; exact f10, by rw [D _ (by omega)]; exact f11, by rw [cup_at]; rfl, by rw [D _ (by omega)]; exact f13⟩
  · have nm : ∀ i : Nat, msx c P Q T i = false := fun i => bf (fun q => (msx_i.mp q).1 z)
    have hv : von c N P Q T = false := decide_eq_false (by rw [cnt_0 (fun i _ => nm i)]; exact Nat.lt_irrefl 0)
    rw [hv]
    exact ⟨g, e, hE.st (fun i _ => by unfold voy; rw [nm i, Bool.or_false])⟩
end Ent3
