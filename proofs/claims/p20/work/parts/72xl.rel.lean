/-! both courts hold the same, and are as they can be: the class's by its cells 3 .., the reference's at 0 -/
def rfd (c : cg) (k : Nat) : Bool := decide (c (29 + k) 6 ≠ 0)
def GP (c : cg) (np N i : Nat) : Prop := (c (17 + 2 * i) 2 = 0 ∨ c (17 + 2 * i) 2 = 1) ∧ (c (17 + 2 * i) 3 = 0 ∨ c (17 + 2 * i) 3 = 1) ∧ c (17 + 2 * i) 4 ≠ (i : Int) ∧ (∃ m : Nat, m < 64 ∧ c (17 + 2 * i) 5 = (m : Int)) ∧ (0 ≤ c (17 + 2 * i) 1 ∧ c (17 + 2 * i) 1 ≤ 9999 + 2000 * (cnt (rfd c) N : Int)) ∧ ∀ t : Nat, t < 8 → -1 ≤ trh c i t ∧ trh c i t < (np : Int)
def GO (c : cg) (np nq k : Nat) : Prop := (0 ≤ c (29 + k) 0 ∧ c (29 + k) 0 < (nq : Int)) ∧ (0 ≤ c (29 + k) 1 ∧ c (29 + k) 1 < (nq : Int)) ∧ (0 ≤ c (29 + k) 2 ∧ c (29 + k) 2 < (np : Int)) ∧ (0 ≤ c (29 + k) 3 ∧ c (29 + k) 3 < 8) ∧ (0 ≤ c (29 + k) 4 ∧ c (29 + k) 4 ≤ 2000) ∧ (c (29 + k) 5 = 0 ∨ c (29 + k) 5 = 1 ∨ c (29 + k) 5 = 2) ∧ (c (29 + k) 6 = 0 ∨ c (29 + k) 6 = 1) ∧ (ohs c k = 0 → c (29 + k) 6 ≠ 0 → trh c (ohp c k) (oht c k) = (ohq c k : Int))
def GD (c : cg) (np nq N : Nat) : Prop := ((0 ≤ c 3 5 ∧ c 3 5 ≤ 99) ∧ (0 ≤ c 3 6 ∧ c 3 6 ≤ 99) ∧ (0 ≤ c 3 7 ∧ c 3 7 ≤ 60)) ∧ (∀ i : Nat, i < np → 0 ≤ c 4 i ∧ c 4 i ≤ 60) ∧ (∀ i : Nat, i < nq → GP c np N i) ∧ (∀ k : Nat, k < N → GO c np nq k) ∧ UQ c N
def CT (c d : cg) (np nq N : Nat) : Prop := (np ≤ 5 ∧ nq ≤ 6 ∧ N ≤ 16) ∧ (c 3 0 = (np : Int) ∧ c 3 3 = (nq : Int) ∧ c 3 9 = (N : Int)) ∧ (d 254 0 = (np : Int) ∧ d 254 1 = (nq : Int) ∧ d 254 2 = (N : Int)) ∧ (d 254 3 = c 3 5 ∧ d 254 4 = c 3 6 ∧ d 254 5 = c 3 7 ∧ d 254 6 = c 3 8) ∧ (∀ i : Nat, i < np → d 254 (10 + i) = c 4 i) ∧ PRS c d nq ∧ ∀ k : Nat, k < N → ∀ j : Nat, j < 7 → d 254 (99 + 8 * k + j) = c (29 + k) j
def RD0 (c d : cg) : Prop := ∃ np nq N : Nat, CT c d np nq N ∧ GD c np nq N
theorem GO.v {c : cg} {np nq k : Nat} (h : GO c np nq k) (h5 : np ≤ 5) (h6 : nq ≤ 6) : (c (29 + k) 0 = (ohw c k : Int) ∧ c (29 + k) 1 = (ohp c k : Int) ∧ c (29 + k) 2 = (ohq c k : Int) ∧ c (29 + k) 3 = (oht c k : Int)) ∧ ohw c k < nq ∧ ohp c k < nq ∧ ohq c k < np ∧ oht c k < 8 := by
  obtain ⟨h0, h1, h2, h3, -⟩ := h
  unfold ohw ohp ohq oht
  omega
theorem GD.hv {c : cg} {np nq N : Nat} (h : GD c np nq N) (h5 : np ≤ 5) (h6 : nq ≤ 6) : OHV c N := by
  intro k hk
  obtain ⟨⟨e0, e1, e2, e3⟩, l0, l1, l2, l3⟩ := (h.2.2.2.1 k hk).v h5 h6
  exact ⟨⟨e0, e1, e2, e3, rfl, rfl, rfl⟩, by omega, by omega, by omega, by omega⟩
theorem CT.hr {c d : cg} {np nq N : Nat} (h : CT c d np nq N) (hg : GD c np nq N) : OHR c d N := by
  intro k hk
  obtain ⟨⟨a1, a2, a3⟩, -, -, -, -, -, h7⟩ := h
  obtain ⟨⟨e0, e1, e2, e3⟩, -⟩ := (hg.2.2.2.1 k hk).v a1 a2
  have q := h7 k hk
  refine ⟨?_, ?_, ?_, ?_, ?_, ?_, ?_⟩
  · rw [← e0]; exact q 0 (by decide)
  · rw [show 100 + 8 * k = 99 + 8 * k + 1 by omega, ← e1]; exact q 1 (by decide)
  · rw [show 101 + 8 * k = 99 + 8 * k + 2 by omega, ← e2]; exact q 2 (by decide)
  · rw [show 102 + 8 * k = 99 + 8 * k + 3 by omega, ← e3]; exact q 3 (by decide)
  · rw [show 103 + 8 * k = 99 + 8 * k + 4 by omega]; exact q 4 (by decide)
  · rw [show 104 + 8 * k = 99 + 8 * k + 5 by omega]; exact q 5 (by decide)
  · rw [show 105 + 8 * k = 99 + 8 * k + 6 by omega]; exact q 6 (by decide)
theorem GP.wok {c : cg} {np N i : Nat} (h : GP c np N i) : WOK c i := ⟨h.2.1, h.2.2.1, h.2.2.2.2.1.1⟩
theorem GD.fr6 {c : cg} {np nq N : Nat} (h : GD c np nq N) : FR6 c nq := fun i hi => (h.2.2.1 i hi).2.2.2.1
theorem cnt_up {f f' : Nat → Bool} {k : Nat} : ∀ N : Nat, k < N → f k = false → f' k = true → (∀ i : Nat, i ≠ k → f' i = f i) → cnt f' N = cnt f N + 1
  | 0, h, _, _, _ => absurd h (Nat.not_lt_zero k)
  | N + 1, h, h1, h2, h3 => by
    by_cases e : k = N
    · subst e
      rw [cnt_s h2, cnt_n h1, cnt_congr k (fun i hi => h3 i (by omega))]
    · have := cnt_up N (by omega) h1 h2 h3
      show cnt f' N + (f' N).toNat = cnt f N + (f N).toNat + 1
      rw [h3 N (fun q => e q.symm)]
      omega
/-! moves: where the cells are the same -/
def SCL (c c' : cg) (np nq N : Nat) : Prop := (∀ j : Nat, j ≤ 9 → c' 3 j = c 3 j) ∧ (∀ i : Nat, i < np → c' 4 i = c 4 i) ∧ (∀ i : Nat, i < nq → (∀ j : Nat, 1 ≤ j → j ≤ 5 → c' (17 + 2 * i) j = c (17 + 2 * i) j) ∧ ∀ t : Nat, t < 8 → c' (18 + 2 * i) t = c (18 + 2 * i) t) ∧ ∀ k : Nat, k < N → ∀ j : Nat, j ≤ 6 → c' (29 + k) j = c (29 + k) j
theorem SCL.of {c c' : cg} {np nq N : Nat} (h5 : np ≤ 5) (h6 : nq ≤ 6) (hN : N ≤ 16) (h : ∀ k j : Nat, 3 ≤ k → k < 45 → c' k j = c k j) : SCL c c' np nq N := ⟨fun j _ => h 3 j (by omega) (by omega), fun i _ => h 4 i (by omega) (by omega), fun i hi => ⟨fun j _ _ => h _ j (by omega) (by omega), fun t _ => h _ t (by omega) (by omega)⟩, fun k hk j _ => h _ j (by omega) (by omega)⟩
theorem SCL.o {c c' : cg} {np nq N : Nat} (h : SCL c c' np nq N) {k : Nat} (hk : k < N) : ohw c' k = ohw c k ∧ ohp c' k = ohp c k ∧ ohq c' k = ohq c k ∧ oht c' k = oht c k ∧ ohs c' k = ohs c k := by
  have q := h.2.2.2 k hk
  unfold ohw ohp ohq oht ohs
  rw [q 0 (by decide), q 1 (by decide), q 2 (by decide), q 3 (by decide), q 5 (by decide)]
  exact ⟨rfl, rfl, rfl, rfl, rfl⟩
theorem GD.mv {c c' : cg} {np nq N : Nat} (h5 : np ≤ 5) (h6 : nq ≤ 6) (h : GD c np nq N) (e : SCL c c' np nq N) : GD c' np nq N := by
  obtain ⟨⟨a1, a2, a3⟩, a4, a5, a6, a7⟩ := h
  obtain ⟨e1, e2, e3, e4⟩ := id e
  have hr : cnt (rfd c') N = cnt (rfd c) N := cnt_congr N (fun i hi => by unfold rfd; rw [e4 i hi 6 (by decide)])
  refine ⟨⟨by rw [e1 5 (by decide)]; exact a1, by rw [e1 6 (by decide)]; exact a2, by rw [e1 7 (by decide)]; exact a3⟩, fun i hi => by rw [e2 i hi]; exact a4 i hi, fun i hi => ?_, fun k hk => ?_, fun i k hi hk => ?_⟩
  · obtain ⟨b1, b2, b3, b4, b5, b6⟩ := a5 i hi
    obtain ⟨f1, f2⟩ := e3 i hi
    refine ⟨by rw [f1 2 (by decide) (by decide)]; exact b1, by rw [f1 3 (by decide) (by decide)]; exact b2, by rw [f1 4 (by decide) (by decide)]; exact b3, by rw [f1 5 (by decide) (by decide)]; exact b4, by rw [f1 1 (by decide) (by decide), hr]; exact b5, fun t ht => ?_⟩
    unfold trh
    rw [f2 t ht]
    exact b6 t ht
  · have g := a6 k hk
    obtain ⟨-, l0, l1, l2, l3⟩ := g.v h5 h6
    obtain ⟨b0, b1, b2, b3, b4, b5, b6, b7⟩ := g
    have q := e4 k hk
    obtain ⟨o0, o1, o2, o3, o5⟩ := e.o hk
    refine ⟨by rw [q 0 (by decide)]; exact b0, by rw [q 1 (by decide)]; exact b1, by rw [q 2 (by decide)]; exact b2, by rw [q 3 (by decide)]; exact b3, by rw [q 4 (by decide)]; exact b4, by rw [q 5 (by decide)]; exact b5, by rw [q 6 (by decide)]; exact b6, ?_⟩
    rw [o5, o1, o3, o2, q 6 (by decide)]
    unfold trh
    rw [(e3 _ l1).2 _ l3]
    exact b7
  · obtain ⟨i0, i1, i2, i3, i5⟩ := e.o (show i < N by omega)
    obtain ⟨k0, k1, k2, k3, k5⟩ := e.o hk
    rw [i5, k5, i1, k1, i3, k3, i0, k0]
    exact a7 i k hi hk
theorem CT.mv {c c' d d' : cg} {np nq N : Nat} (h : CT c d np nq N) (e : SCL c c' np nq N) (hd : ∀ j : Nat, j < 260 → d' 254 j = d 254 j) : CT c' d' np nq N := by
  obtain ⟨⟨a1, a2, a3⟩, ⟨b1, b2, b3⟩, ⟨c1, c2, c3⟩, ⟨d1, d2, d3, d4⟩, h5, h6, h7⟩ := h
  obtain ⟨e1, e2, e3, e4⟩ := e
  refine ⟨⟨a1, a2, a3⟩, ⟨by rw [e1 0 (by decide)]; exact b1, by rw [e1 3 (by decide)]; exact b2, by rw [e1 9 (by decide)]; exact b3⟩, ⟨by rw [hd 0 (by decide)]; exact c1, by rw [hd 1 (by decide)]; exact c2, by rw [hd 2 (by decide)]; exact c3⟩, ⟨by rw [hd 3 (by decide), e1 5 (by decide)]; exact d1, by rw [hd 4 (by decide), e1 6 (by decide)]; exact d2, by rw [hd 5 (by decide), e1 7 (by decide)]; exact d3, by rw [hd 6 (by decide), e1 8 (by decide)]; exact d4⟩, fun i hi => by rw [hd _ (by omega), e2 i hi]; exact h5 i hi, fun i hi => ?_, fun k hk j hj => by rw [hd _ (by omega), e4 k hk j (by omega)]; exact h7 k hk j hj⟩
  obtain ⟨⟨p1, p2, p3, p4, p5⟩, p6⟩ := h6 i hi
  obtain ⟨f1, f2⟩ := e3 i hi
  refine ⟨⟨?_, ?_, ?_, ?_, ?_⟩, fun t ht => ?_⟩
  · rw [hd _ (by omega), f1 1 (by decide) (by decide)]; exact p1
  · rw [hd _ (by omega), f1 2 (by decide) (by decide)]; exact p2
  · rw [hd _ (by omega), f1 3 (by decide) (by decide)]; exact p3
  · rw [hd _ (by omega), f1 4 (by decide) (by decide)]; exact p4
  · rw [hd _ (by omega), f1 5 (by decide) (by decide)]; exact p5
  · rw [hd _ (by omega)]
    unfold trh
    rw [f2 t ht]
    exact p6 t ht
/-! one cell of both set to the same -/
theorem CT.oset {c d : cg} {np nq N k j : Nat} (h : CT c d np nq N) (hk : k < 16) (hj : j < 7) (v : Int) : CT (cup c (29 + k) j v) (cup d 254 (99 + 8 * k + j) v) np nq N := by
  obtain ⟨⟨a1, a2, a3⟩, ⟨b1, b2, b3⟩, ⟨c1, c2, c3⟩, ⟨d1, d2, d3, d4⟩, h5, h6, h7⟩ := h
  have C : ∀ x y : Nat, x ≠ 29 + k → cup c (29 + k) j v x y = c x y := fun x y q => cup_ne (fun e => q e.1)
  have D : ∀ y : Nat, y ≠ 99 + 8 * k + j → cup d 254 (99 + 8 * k + j) v 254 y = d 254 y := fun y q => cup_ne (fun e => q e.2)
  refine ⟨⟨a1, a2, a3⟩, ⟨by rw [C _ _ (by omega)]; exact b1, by rw [C _ _ (by omega)]; exact b2, by rw [C _ _ (by omega)]; exact b3⟩, ⟨by rw [D _ (by omega)]; exact c1, by rw [D _ (by omega)]; exact c2, by rw [D _ (by omega)]; exact c3⟩, ⟨by rw [C _ _ (by omega), D _ (by omega)]; exact d1, by rw [C _ _ (by omega), D _ (by omega)]; exact d2, by rw [C _ _ (by omega), D _ (by omega)]; exact d3, by rw [C _ _ (by omega), D _ (by omega)]; exact d4⟩, fun i hi => by rw [C _ _ (by omega), D _ (by omega)]; exact h5 i hi, fun i hi => ?_, fun i hi y hy => ?_⟩
  · obtain ⟨⟨p1, p2, p3, p4, p5⟩, p6⟩ := h6 i hi
    refine ⟨⟨?_, ?_, ?_, ?_, ?_⟩, fun t ht => ?_⟩
    · rw [C _ _ (by omega), D _ (by omega)]; exact p1
    · rw [C _ _ (by omega), D _ (by omega)]; exact p2
    · rw [C _ _ (by omega), D _ (by omega)]; exact p3
    · rw [C _ _ (by omega), D _ (by omega)]; exact p4
    · rw [C _ _ (by omega), D _ (by omega)]; exact p5
    · unfold trh
      rw [C _ _ (by omega), D _ (by omega)]; exact p6 t ht
  · by_cases e : i = k ∧ y = j
    · rw [e.1, e.2, cup_at, cup_at]
    · rw [D _ (by omega), cup_ne (by omega)]; exact h7 i hi y hy
theorem CT.pset {c d : cg} {np nq N i j : Nat} (h : CT c d np nq N) (hi : i < 6) (hj : 1 ≤ j ∧ j ≤ 5) (v : Int) : CT (cup c (17 + 2 * i) j v) (cup d 254 (14 + 6 * i + j) v) np nq N := by
  obtain ⟨⟨a1, a2, a3⟩, ⟨b1, b2, b3⟩, ⟨c1, c2, c3⟩, ⟨d1, d2, d3, d4⟩, h5, h6, h7⟩ := h
  have C : ∀ x y : Nat, ¬ (x = 17 + 2 * i ∧ y = j) → cup c (17 + 2 * i) j v x y = c x y := fun x y q => cup_ne q
  have D : ∀ y : Nat, y ≠ 14 + 6 * i + j → cup d 254 (14 + 6 * i + j) v 254 y = d 254 y := fun y q => cup_ne (fun e => q e.2)
  refine ⟨⟨a1, a2, a3⟩, ⟨by rw [C _ _ (by omega)]; exact b1, by rw [C _ _ (by omega)]; exact b2, by rw [C _ _ (by omega)]; exact b3⟩, ⟨by rw [D _ (by omega)]; exact c1, by rw [D _ (by omega)]; exact c2, by rw [D _ (by omega)]; exact c3⟩, ⟨by rw [C _ _ (by omega), D _ (by omega)]; exact d1, by rw [C _ _ (by omega), D _ (by omega)]; exact d2, by rw [C _ _ (by omega), D _ (by omega)]; exact d3, by rw [C _ _ (by omega), D _ (by omega)]; exact d4⟩, fun x hx => by rw [C _ _ (by omega), D _ (by omega)]; exact h5 x hx, fun x hx => ?_, fun x hx y hy => by rw [C _ _ (by omega), D _ (by omega)]; exact h7 x hx y hy⟩
  obtain ⟨⟨p1, p2, p3, p4, p5⟩, p6⟩ := h6 x hx
  have one : ∀ f : Nat, 1 ≤ f → f ≤ 5 → d 254 (14 + 6 * x + f) = c (17 + 2 * x) f → cup d 254 (14 + 6 * i + j) v 254 (14 + 6 * x + f) = cup c (17 + 2 * i) j v (17 + 2 * x) f := fun f f1 f2 q => by
    by_cases e : x = i ∧ f = j
    · rw [e.1, e.2, cup_at, cup_at]
    · rw [C _ _ (by omega), D _ (by omega)]; exact q
  refine ⟨⟨?_, ?_, ?_, ?_, ?_⟩, fun t ht => ?_⟩
  · rw [show 15 + 6 * x = 14 + 6 * x + 1 by omega] at p1 ⊢; exact one 1 (by decide) (by decide) p1
  · rw [show 16 + 6 * x = 14 + 6 * x + 2 by omega] at p2 ⊢; exact one 2 (by decide) (by decide) p2
  · rw [show 17 + 6 * x = 14 + 6 * x + 3 by omega] at p3 ⊢; exact one 3 (by decide) (by decide) p3
  · rw [show 18 + 6 * x = 14 + 6 * x + 4 by omega] at p4 ⊢; exact one 4 (by decide) (by decide) p4
  · rw [show 19 + 6 * x = 14 + 6 * x + 5 by omega] at p5 ⊢; exact one 5 (by decide) (by decide) p5
  · unfold trh
    rw [C _ _ (by omega), D _ (by omega)]; exact p6 t ht
theorem CT.tset {c d : cg} {np nq N i t : Nat} (h : CT c d np nq N) (hi : i < 6) (ht : t < 8) (v : Int) : CT (cup c (18 + 2 * i) t v) (cup d 254 (51 + 8 * i + t) v) np nq N := by
  obtain ⟨⟨a1, a2, a3⟩, ⟨b1, b2, b3⟩, ⟨c1, c2, c3⟩, ⟨d1, d2, d3, d4⟩, h5, h6, h7⟩ := h
  have C : ∀ x y : Nat, ¬ (x = 18 + 2 * i ∧ y = t) → cup c (18 + 2 * i) t v x y = c x y := fun x y q => cup_ne q
  have D : ∀ y : Nat, y ≠ 51 + 8 * i + t → cup d 254 (51 + 8 * i + t) v 254 y = d 254 y := fun y q => cup_ne (fun e => q e.2)
  refine ⟨⟨a1, a2, a3⟩, ⟨by rw [C _ _ (by omega)]; exact b1, by rw [C _ _ (by omega)]; exact b2, by rw [C _ _ (by omega)]; exact b3⟩, ⟨by rw [D _ (by omega)]; exact c1, by rw [D _ (by omega)]; exact c2, by rw [D _ (by omega)]; exact c3⟩, ⟨by rw [C _ _ (by omega), D _ (by omega)]; exact d1, by rw [C _ _ (by omega), D _ (by omega)]; exact d2, by rw [C _ _ (by omega), D _ (by omega)]; exact d3, by rw [C _ _ (by omega), D _ (by omega)]; exact d4⟩, fun x hx => by rw [C _ _ (by omega), D _ (by omega)]; exact h5 x hx, fun x hx => ?_, fun x hx y hy => by rw [C _ _ (by omega), D _ (by omega)]; exact h7 x hx y hy⟩
  obtain ⟨⟨p1, p2, p3, p4, p5⟩, p6⟩ := h6 x hx
  refine ⟨⟨?_, ?_, ?_, ?_, ?_⟩, fun y hy => ?_⟩
  · rw [C _ _ (by omega), D _ (by omega)]; exact p1
  · rw [C _ _ (by omega), D _ (by omega)]; exact p2
  · rw [C _ _ (by omega), D _ (by omega)]; exact p3
  · rw [C _ _ (by omega), D _ (by omega)]; exact p4
  · rw [C _ _ (by omega), D _ (by omega)]; exact p5
  · unfold trh
    by_cases e : x = i ∧ y = t
    · rw [e.1, e.2, cup_at, cup_at]
    · rw [C _ _ (by omega), D _ (by omega)]; exact p6 y hy
theorem CT.sset {c d : cg} {np nq N j : Nat} (h : CT c d np nq N) (hj : 3 ≤ j ∧ j ≤ 6) (v : Int) : CT (cup c 3 (j + 2) v) (cup d 254 j v) np nq N := by
  obtain ⟨⟨a1, a2, a3⟩, ⟨b1, b2, b3⟩, ⟨c1, c2, c3⟩, ⟨d1, d2, d3, d4⟩, h5, h6, h7⟩ := h
  have C : ∀ x y : Nat, ¬ (x = 3 ∧ y = j + 2) → cup c 3 (j + 2) v x y = c x y := fun x y q => cup_ne q
  have D : ∀ y : Nat, y ≠ j → cup d 254 j v 254 y = d 254 y := fun y q => cup_ne (fun e => q e.2)
  have one : ∀ f : Nat, d 254 f = c 3 (f + 2) → cup d 254 j v 254 f = cup c 3 (j + 2) v 3 (f + 2) := fun f q => by
    by_cases e : f = j
    · rw [e, cup_at, cup_at]
    · rw [C _ _ (by omega), D _ (by omega)]; exact q
  refine ⟨⟨a1, a2, a3⟩, ⟨by rw [C _ _ (by omega)]; exact b1, by rw [C _ _ (by omega)]; exact b2, by rw [C _ _ (by omega)]; exact b3⟩, ⟨by rw [D _ (by omega)]; exact c1, by rw [D _ (by omega)]; exact c2, by rw [D _ (by omega)]; exact c3⟩, ⟨one 3 d1, one 4 d2, one 5 d3, one 6 d4⟩, fun x hx => by rw [C _ _ (by omega), D _ (by omega)]; exact h5 x hx, fun x hx => ?_, fun x hx y hy => by rw [C _ _ (by omega), D _ (by omega)]; exact h7 x hx y hy⟩
  obtain ⟨⟨p1, p2, p3, p4, p5⟩, p6⟩ := h6 x hx
  refine ⟨⟨?_, ?_, ?_, ?_, ?_⟩, fun y hy => ?_⟩
  · rw [C _ _ (by omega), D _ (by omega)]; exact p1
  · rw [C _ _ (by omega), D _ (by omega)]; exact p2
  · rw [C _ _ (by omega), D _ (by omega)]; exact p3
  · rw [C _ _ (by omega), D _ (by omega)]; exact p4
  · rw [C _ _ (by omega), D _ (by omega)]; exact p5
  · unfold trh
    rw [C _ _ (by omega), D _ (by omega)]; exact p6 y hy
