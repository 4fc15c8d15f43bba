section
/-! what both programs have in common -/
def RF (g : cg) : Prop := g 88 10 = g 253 16 ∧ g 88 11 = g 253 17
/-- the names and numbers of a court: the class's object B, the reference's place a, names from n -/
def RC (B a n : Nat) (g : cg) : Prop := ∃ np nq : Nat, (np ≤ 5 ∧ nq ≤ 6) ∧ (g B 0 = (np : Int) ∧ g 254 a = (np : Int) ∧ g B 3 = (nq : Int) ∧ g 254 (a + 1) = (nq : Int)) ∧ (∀ i : Nat, i < np → NR (g (B + 2) i) (g 255 (n + i))) ∧ (∀ i : Nat, i < nq → NR (g (B + 14 + 2 * i) 0) (g 255 (n + 5 + i)))
/-- a court with all that it holds; its TRIALS' rows at s -/
def RCX (B a s n : Nat) (g : cg) : Prop := RC B a n g ∧ RX B a s g
def RM (g : cg) : Prop := ∃ m : Nat, m ≤ 3 ∧ g 0 9 = (m : Int) ∧ g 253 39 = (m : Int) ∧ ∀ i : Nat, i < m → RCX (127 + 42 * i) (744 * (i + 1)) (744 * (i + 1) + 260) (12 * (i + 1)) g
def yR (a : Nat) (g : cg) : Prop := RCX 3 a 260 0 g ∧ RM g
def EQd (l : List (Nat × Int × Int)) (g g' : cg) : Prop := ∀ q ∈ l, ∀ j : Nat, q.2.1 ≤ (j : Int) → (j : Int) ≤ q.2.2 → g' q.1 j = g q.1 j
theorem EQd.at {l : List (Nat × Int × Int)} {g g' : cg} (h : EQd l g g') {k : Nat} {lo hi : Int} (hm : (k, lo, hi) ∈ l) (j : Nat) (h1 : lo ≤ (j : Int)) (h2 : (j : Int) ≤ hi) : g' k j = g k j := h _ hm j h1 h2
theorem RF.fr {g g' : cg} (h : RF g) (e1 : g' 88 10 = g 88 10) (e2 : g' 88 11 = g 88 11) (e3 : g' 253 16 = g 253 16) (e4 : g' 253 17 = g 253 17) : RF g' := ⟨by rw [e1, e3]; exact h.1, by rw [e2, e4]; exact h.2⟩
/-- two courts' names and numbers that are the same, by their cells -/
def SC (B a n B' a' n' : Nat) (g g' : cg) : Prop := (g' B' 0 = g B 0 ∧ g' B' 3 = g B 3) ∧ (∀ i : Nat, i < 5 → g' (B' + 2) i = g (B + 2) i) ∧ (∀ i : Nat, (i : Int) < g B 3 → i < 6 → g' (B' + 14 + 2 * i) 0 = g (B + 14 + 2 * i) 0) ∧ (g' 254 a' = g 254 a ∧ g' 254 (a' + 1) = g 254 (a + 1)) ∧ ∀ i : Nat, i < 12 → g' 255 (n' + i) = g 255 (n + i)
theorem RC.mv {B a n B' a' n' : Nat} {g g' : cg} (h : RC B a n g) (e : SC B a n B' a' n' g g') : RC B' a' n' g' := by
  obtain ⟨np, nq, ⟨h5, h6⟩, ⟨a1, a2, a3, a4⟩, a5, a6⟩ := h
  obtain ⟨⟨e1, e2⟩, e4, e5, ⟨e6, e7⟩, e9⟩ := e
  refine ⟨np, nq, ⟨h5, h6⟩, ⟨e1.trans a1, e6.trans a2, e2.trans a3, e7.trans a4⟩, fun i hi => ?_, fun i hi => ?_⟩
  · rw [e4 i (by omega), e9 i (by omega)]; exact a5 i hi
  · rw [e5 i (by omega) (by omega), show n' + 5 + i = n' + (5 + i) by omega, e9 (5 + i) (by omega), show n + (5 + i) = n + 5 + i by omega]; exact a6 i hi
/-- what both courts hold otherwise, the same by its cells -/
def SX (B a s B' a' s' : Nat) (g g' : cg) : Prop := (∀ j : Nat, j ≤ 9 → j ≠ 1 → j ≠ 2 → j ≠ 4 → g' B' j = g B j) ∧ (∀ i : Nat, i < 5 → g' (B' + 1) i = g (B + 1) i) ∧ (∀ i : Nat, (i : Int) < g B 3 → i < 6 → (∀ j : Nat, j < 6 → g' (B' + 14 + 2 * i) j = g (B + 14 + 2 * i) j) ∧ ∀ t : Nat, t < 8 → g' (B' + 15 + 2 * i) t = g (B + 15 + 2 * i) t) ∧ (∀ k : Nat, (k : Int) < g B 9 → k < 16 → ∀ j : Nat, j < 7 → g' (B' + 26 + k) j = g (B + 26 + k) j) ∧ (g' (B' + 5) 0 = g (B + 5) 0 ∧ (g (B + 5) 0 = 1 → g' (B' + 5) 2 = g (B + 5) 2 ∧ ∀ q r : Nat, q < 8 → (r : Int) < g (B + 5) 2 → g' (B' + 6 + q) r = g (B + 6 + q) r)) ∧ (∀ j : Nat, j < 260 → g' 254 (a' + j) = g 254 (a + j)) ∧ ∀ j : Nat, j < 480 → g' 254 (s' + j) = g 254 (s + j)
def SCW (c c' : cg) (np nq N : Nat) : Prop := (∀ j : Nat, j ≤ 9 → j ≠ 1 → j ≠ 2 → j ≠ 4 → c' 3 j = c 3 j) ∧ (∀ i : Nat, i < np → c' 4 i = c 4 i) ∧ (∀ i : Nat, i < nq → (∀ j : Nat, 1 ≤ j → j ≤ 5 → c' (17 + 2 * i) j = c (17 + 2 * i) j) ∧ ∀ t : Nat, t < 8 → c' (18 + 2 * i) t = c (18 + 2 * i) t) ∧ ∀ k : Nat, k < N → ∀ j : Nat, j ≤ 6 → c' (29 + k) j = c (29 + k) j
theorem SCW.of {c c' : cg} {np nq N : Nat} (h5 : np ≤ 5) (h6 : nq ≤ 6) (hN : N ≤ 16) (h : ∀ k j : Nat, 3 ≤ k → k < 45 → c' k j = c k j) : SCW c c' np nq N := ⟨fun j _ _ _ _ => h 3 j (by omega) (by omega), fun i _ => h 4 i (by omega) (by omega), fun i hi => ⟨fun j _ _ => h _ j (by omega) (by omega), fun t _ => h _ t (by omega) (by omega)⟩, fun k hk j _ => h _ j (by omega) (by omega)⟩
theorem SCW.o {c c' : cg} {np nq N : Nat} (h : SCW c c' np nq N) {k : Nat} (hk : k < N) : ohw c' k = ohw c k ∧ ohp c' k = ohp c k ∧ ohq c' k = ohq c k ∧ oht c' k = oht c k ∧ ohs c' k = ohs c k := by
  have q := h.2.2.2 k hk
  unfold ohw ohp ohq oht ohs
  rw [q 0 (by decide), q 1 (by decide), q 2 (by decide), q 3 (by decide), q 5 (by decide)]
  exact ⟨rfl, rfl, rfl, rfl, rfl⟩
theorem GD.mvw {c c' : cg} {np nq N : Nat} (h5 : np ≤ 5) (h6 : nq ≤ 6) (h : GD c np nq N) (e : SCW c c' np nq N) : GD c' np nq N := by
  obtain ⟨⟨a1, a2, a3⟩, a4, a5, a6, a7⟩ := h
  obtain ⟨e1, e2, e3, e4⟩ := id e
  have hr : cnt (rfd c') N = cnt (rfd c) N := cnt_congr N (fun i hi => by unfold rfd; rw [e4 i hi 6 (by decide)])
  refine ⟨⟨by rw [e1 5 (by decide) (by decide) (by decide) (by decide)]; exact a1, by rw [e1 6 (by decide) (by decide) (by decide) (by decide)]; exact a2, by rw [e1 7 (by decide) (by decide) (by decide) (by decide)]; exact a3⟩, fun i hi => by rw [e2 i hi]; exact a4 i hi, fun i hi => ?_, fun k hk => ?_, fun i k hi hk => ?_⟩
  · obtain ⟨b1, b2, b3, b4, b5, b6⟩ := a5 i hi
    obtain ⟨f1, f2⟩ := e3 i hi
    refine ⟨by rw [f1 2 (by decide) (by decide)]; exact b1, by rw [f1 3 (by decide) (by decide)]; exact b2, by rw [f1 4 (by decide) (by decide)]; exact b3, by rw [f1 5 (by decide) (by decide)]; exact b4, by rw [f1 1 (by decide) (by decide), hr]; exact b5, fun t ht => ?_⟩
    unfold trh
    rw [f2 t ht]
    exact b6 t ht
  · have g := a6 k hk
    obtain ⟨-, l0, l1, l2, l3⟩ := g.v h5 h6
    obtain ⟨b0, b1, b2, b3, b4, b5, b6, b7⟩ := g
    have q := e4 k hk
    obtain ⟨o0, o1, o2, o3, o5⟩ := e.o hk
    refine ⟨by rw [q 0 (by decide)]; exact b0, by rw [q 1 (by decide)]; exact b1, by rw [q 2 (by decide)]; exact b2, by rw [q 3 (by decide)]; exact b3, by rw [q 4 (by decide)]; exact b4, by rw [q 5 (by decide)]; exact b5, by rw [q 6 (by decide)]; exact b6, ?_⟩
    rw [o5, o1, o3, o2, q 6 (by decide)]
    unfold trh
    rw [(e3 _ l1).2 _ l3]
    exact b7
  · obtain ⟨i0, i1, i2, i3, i5⟩ := e.o (show i < N by omega)
    obtain ⟨k0, k1, k2, k3, k5⟩ := e.o hk
    rw [i5, k5, i1, k1, i3, k3, i0, k0]
    exact a7 i k hi hk
theorem CT.mvw {c c' d d' : cg} {np nq N : Nat} (h : CT c d np nq N) (e : SCW c c' np nq N) (hd : ∀ j : Nat, j < 260 → d' 254 j = d 254 j) : CT c' d' np nq N := by
  obtain ⟨⟨a1, a2, a3⟩, ⟨b1, b2, b3⟩, ⟨c1, c2, c3⟩, ⟨d1, d2, d3, d4⟩, h5, h6, h7⟩ := h
  obtain ⟨e1, e2, e3, e4⟩ := e
  refine ⟨⟨a1, a2, a3⟩, ⟨by rw [e1 0 (by decide) (by decide) (by decide) (by decide)]; exact b1, by rw [e1 3 (by decide) (by decide) (by decide) (by decide)]; exact b2, by rw [e1 9 (by decide) (by decide) (by decide) (by decide)]; exact b3⟩, ⟨by rw [hd 0 (by decide)]; exact c1, by rw [hd 1 (by decide)]; exact c2, by rw [hd 2 (by decide)]; exact c3⟩, ⟨by rw [hd 3 (by decide), e1 5 (by decide) (by decide) (by decide) (by decide)]; exact d1, by rw [hd 4 (by decide), e1 6 (by decide) (by decide) (by decide) (by decide)]; exact d2, by rw [hd 5 (by decide), e1 7 (by decide) (by decide) (by decide) (by decide)]; exact d3, by rw [hd 6 (by decide), e1 8 (by decide) (by decide) (by decide) (by decide)]; exact d4⟩, fun i hi => by rw [hd _ (by omega), e2 i hi]; exact h5 i hi, fun i hi => ?_, fun k hk j hj => by rw [hd _ (by omega), e4 k hk j (by omega)]; exact h7 k hk j hj⟩
  obtain ⟨⟨p1, p2, p3, p4, p5⟩, p6⟩ := h6 i hi
  obtain ⟨f1, f2⟩ := e3 i hi
  refine ⟨⟨?_, ?_, ?_, ?_, ?_⟩, fun t ht => ?_⟩
  · rw [hd _ (by omega), f1 1 (by decide) (by decide)]; exact p1
  · rw [hd _ (by omega), f1 2 (by decide) (by decide)]; exact p2
  · rw [hd _ (by omega), f1 3 (by decide) (by decide)]; exact p3
  · rw [hd _ (by omega), f1 4 (by decide) (by decide)]; exact p4
  · rw [hd _ (by omega), f1 5 (by decide) (by decide)]; exact p5
  · rw [hd _ (by omega)]
    unfold trh
    rw [f2 t ht]
    exact p6 t ht
theorem RDT.mvw {c d c2 d2 : cg} (h : RDT c d) (e1 : ∀ np nq N : Nat, np ≤ 5 → nq ≤ 6 → N ≤ 16 → c 3 0 = (np : Int) → c 3 3 = (nq : Int) → c 3 9 = (N : Int) → SCW c c2 np nq N) (e2 : ∀ j : Nat, j < 260 → d2 254 j = d 254 j) (e0 : c2 8 0 = c 8 0) (hc : c 8 0 = 1 → c2 8 2 = c 8 2 ∧ ∀ k r : Nat, 9 ≤ k → k ≤ 16 → (r : Int) < c 8 2 → c2 k r = c k r) (hd : ∀ j : Nat, 260 ≤ j → j < 740 → d2 254 j = d 254 j) : RDT c2 d2 := by
  obtain ⟨np, nq, N, hC, hG, hT⟩ := h
  obtain ⟨⟨q5, q6, qN⟩, ⟨a1, a2, a3⟩, -⟩ := id hC
  have s := e1 np nq N q5 q6 qN a1 a2 a3
  exact ⟨np, nq, N, hC.mvw s e2, hG.mvw q5 q6 s, hT.mvr e0 (e2 7 (by decide)) hc hd⟩
theorem RX.mvx {B a s B' a' s' : Nat} {g g' : cg} (h : RX B a s g) (hB : 3 ≤ B) (hB' : 3 ≤ B') (e : SX B a s B' a' s' g g') : RX B' a' s' g' := by
  obtain ⟨e1, e2, e3, e4, ⟨e5, e67⟩, e8, e9⟩ := e
  have V : ∀ (X : Nat) (f : cg) (k j : Nat), 3 ≤ X → vc X f (3 + k) j = f (X + k) j := fun X f k j hX => by
    show f (3 + k + X - 3) j = f (X + k) j
    rw [show 3 + k + X - 3 = X + k by omega]
  have V0 : ∀ (X : Nat) (f : cg) (j : Nat), 3 ≤ X → vc X f 3 j = f X j := fun X f j hX => V X f 0 j hX
  refine RDT.mvw h (fun np nq N q5 q6 qN c0 c3 c9 => ⟨fun j hj j1 j2 j4 => ?_, fun i hi => ?_, fun i hi => ⟨fun j j1 j2 => ?_, fun t ht => ?_⟩, fun k hk j hj => ?_⟩) (fun j hj => by rw [vd_lo hj, vd_lo hj]; exact e8 j hj) ?_ (fun ht1 => ⟨?_, fun k r k1 k2 hr => ?_⟩) (fun j j1 j2 => by rw [vd_hi j1, vd_hi j1]; exact e9 _ (by omega))
  · rw [V0 _ _ _ hB', V0 _ _ _ hB]
    exact e1 j hj j1 j2 j4
  · rw [show (4 : Nat) = 3 + 1 from rfl, V _ _ _ _ hB', V _ _ _ _ hB]
    exact e2 i (by omega)
  · rw [V0 _ _ _ hB] at c3
    rw [show 17 + 2 * i = 3 + (14 + 2 * i) by omega, V _ _ _ _ hB', V _ _ _ _ hB, ← Nat.add_assoc, ← Nat.add_assoc]
    exact (e3 i (by omega) (by omega)).1 j (by omega)
  · rw [V0 _ _ _ hB] at c3
    rw [show 18 + 2 * i = 3 + (15 + 2 * i) by omega, V _ _ _ _ hB', V _ _ _ _ hB, ← Nat.add_assoc, ← Nat.add_assoc]
    exact (e3 i (by omega) (by omega)).2 t ht
  · rw [V0 _ _ _ hB] at c9
    rw [show 29 + k = 3 + (26 + k) by omega, V _ _ _ _ hB', V _ _ _ _ hB, ← Nat.add_assoc, ← Nat.add_assoc]
    exact e4 k (by omega) (by omega) j (by omega)
  · rw [show (8 : Nat) = 3 + 5 from rfl, V _ _ _ _ hB', V _ _ _ _ hB]
    exact e5
  · rw [show (8 : Nat) = 3 + 5 from rfl, V _ _ _ _ hB] at ht1
    rw [show (8 : Nat) = 3 + 5 from rfl, V _ _ _ _ hB', V _ _ _ _ hB]
    exact (e67 ht1).1
  · rw [show (8 : Nat) = 3 + 5 from rfl, V _ _ _ _ hB] at hr ht1
    rw [show k = 3 + (6 + (k - 9)) by omega, V _ _ _ _ hB', V _ _ _ _ hB, ← Nat.add_assoc, ← Nat.add_assoc]
    exact (e67 ht1).2 (k - 9) r (by omega) hr
theorem RCX.mvx {B a s n B' a' s' n' : Nat} {g g' : cg} (h : RCX B a s n g) (hB : 3 ≤ B) (hB' : 3 ≤ B') (e : SC B a n B' a' n' g g') (e' : SX B a s B' a' s' g g') : RCX B' a' s' n' g' := ⟨h.1.mv e, h.2.mvx hB hB' e'⟩
def cdep (B a s n : Nat) : List (Nat × Int × Int) := [(254, (a : Int), ((a + 259 : Nat) : Int)), (254, (s : Int), ((s + 479 : Nat) : Int)), (255, (n : Int), ((n + 11 : Nat) : Int))] ++ xCD B
def ydep0 (a : Nat) : List (Nat × Int × Int) := [(0, 9, 9), (253, 39, 39)] ++ (cdep 3 a 260 0 ++ (List.range 3).flatMap (fun i => cdep (127 + 42 * i) (744 * (i + 1)) (744 * (i + 1) + 260) (12 * (i + 1))))
def ydep (a : Nat) : List (Nat × Int × Int) := match Nat.beq a 9999 with
  | true => [(88, 10, 11), (253, 16, 17)]
  | false => ydep0 a
/-- a court whose cells are left alone -/
theorem xcd_at {B : Nat} {g g' : cg} (h : EQd (xCD B) g g') : (∀ j : Nat, j < 10 → g' B j = g B j) ∧ (∀ j : Nat, j < 5 → g' (B + 1) j = g (B + 1) j) ∧ (∀ j : Nat, j < 5 → g' (B + 2) j = g (B + 2) j) ∧ (∀ i j : Nat, i < 6 → j < 6 → g' (B + 14 + 2 * i) j = g (B + 14 + 2 * i) j) ∧ (∀ i j : Nat, i < 6 → j < 8 → g' (B + 15 + 2 * i) j = g (B + 15 + 2 * i) j) ∧ (∀ i j : Nat, i < 16 → j < 8 → g' (B + 26 + i) j = g (B + 26 + i) j) ∧ (∀ j : Nat, j < 3 → g' (B + 5) j = g (B + 5) j) ∧ ∀ q r : Nat, q < 8 → r < 60 → g' (B + 6 + q) r = g (B + 6 + q) r := by
  have N : ∀ q ∈ xND B, q ∈ xCD B := fun q hq => List.mem_append.mpr (Or.inl hq)
  have P : ∀ i : Nat, i < 6 → ∀ q ∈ [(B + 14 + 2 * i, (0 : Int), (5 : Int)), (B + 15 + 2 * i, (0 : Int), (7 : Int))], q ∈ xCD B := fun i hi q hq => N _ (List.mem_append.mpr (Or.inr (List.mem_append.mpr (Or.inl (List.mem_flatMap.mpr ⟨i, List.mem_range.mpr hi, hq⟩)))))
  refine ⟨fun j hj => h.at (k := B) (lo := 0) (hi := 9) (N _ (List.mem_append.mpr (Or.inl List.mem_cons_self))) j (by omega) (by omega), fun j hj => h.at (k := B + 1) (lo := 0) (hi := 4) (N _ (List.mem_append.mpr (Or.inl (List.mem_cons_of_mem _ List.mem_cons_self)))) j (by omega) (by omega), fun j hj => h.at (k := B + 2) (lo := 0) (hi := 4) (N _ (List.mem_append.mpr (Or.inl (List.mem_cons_of_mem _ (List.mem_cons_of_mem _ List.mem_cons_self))))) j (by omega) (by omega), fun i j hi hj => h.at (P i hi _ List.mem_cons_self) j (by omega) (by omega), fun i j hi hj => h.at (P i hi _ (List.mem_cons_of_mem _ List.mem_cons_self)) j (by omega) (by omega), fun i j hi hj => h.at (k := B + 26 + i) (lo := 0) (hi := 7) (N _ (List.mem_append.mpr (Or.inr (List.mem_append.mpr (Or.inr (List.mem_map.mpr ⟨i, List.mem_range.mpr hi, rfl⟩)))))) j (by omega) (by omega), fun j hj => h.at (k := B + 5) (lo := 0) (hi := 2) (List.mem_append.mpr (Or.inr List.mem_cons_self)) j (by omega) (by omega), fun q r hq hr => h.at (k := B + 6 + q) (lo := 0) (hi := 59) (List.mem_append.mpr (Or.inr (List.mem_cons_of_mem _ (List.mem_map.mpr ⟨q, List.mem_range.mpr hq, rfl⟩)))) r (by omega) (by omega)⟩
/-- how many rows the TRIALS have -/
theorem RX.r60 {B a s : Nat} {g : cg} (hB : 3 ≤ B) (h : RX B a s g) : g (B + 5) 0 = 1 → g (B + 5) 2 ≤ 60 := by
  intro h1
  obtain ⟨np, nq, N, -, -, hT⟩ := h
  have e0 : vc B g 8 0 = g (B + 5) 0 := by
    show g (8 + B - 3) 0 = _
    rw [show 8 + B - 3 = B + 5 by omega]
  have e2 : vc B g 8 2 = g (B + 5) 2 := by
    show g (8 + B - 3) 2 = _
    rw [show 8 + B - 3 = B + 5 by omega]
  rcases hT with ⟨t1, -⟩ | ⟨t1, nn, t2, t3, -⟩ <;> omega
theorem RCX.frx {B a s n : Nat} {g g' : cg} (hB : 3 ≤ B) (h : RCX B a s n g) (e : EQd (cdep B a s n) g g') : RCX B a s n g' := by
  have ec : EQd (xCD B) g g' := fun q hq => e q (List.mem_append.mpr (Or.inr hq))
  have d1 : ∀ j : Nat, j < 260 → g' 254 (a + j) = g 254 (a + j) := fun j hj => e.at (k := 254) (lo := (a : Int)) (hi := ((a + 259 : Nat) : Int)) (List.mem_append.mpr (Or.inl List.mem_cons_self)) (a + j) (by omega) (by omega)
  have d2 : ∀ j : Nat, j < 480 → g' 254 (s + j) = g 254 (s + j) := fun j hj => e.at (k := 254) (lo := (s : Int)) (hi := ((s + 479 : Nat) : Int)) (List.mem_append.mpr (Or.inl (List.mem_cons_of_mem _ List.mem_cons_self))) (s + j) (by omega) (by omega)
  have d3 : ∀ j : Nat, j < 12 → g' 255 (n + j) = g 255 (n + j) := fun j hj => e.at (k := 255) (lo := (n : Int)) (hi := ((n + 11 : Nat) : Int)) (List.mem_append.mpr (Or.inl (List.mem_cons_of_mem _ (List.mem_cons_of_mem _ List.mem_cons_self)))) (n + j) (by omega) (by omega)
  obtain ⟨x0, x1, x2, x3, x4, x5, x6, x7⟩ := xcd_at ec
  have hr := h.2.r60 hB
  exact h.mvx hB hB ⟨⟨x0 0 (by decide), x0 3 (by decide)⟩, x2, fun i _ hi => x3 i 0 hi (by decide), ⟨d1 0 (by decide), d1 1 (by decide)⟩, d3⟩ ⟨fun j hj _ _ _ => x0 j (by omega), x1, fun i _ hi => ⟨fun j hj => x3 i j hi hj, fun t ht => x4 i t hi ht⟩, fun k _ hk j hj => x5 k j hk (by omega), ⟨x6 0 (by decide), fun h1 => ⟨x6 2 (by decide), fun q r hq hr2 => x7 q r hq (by have := hr h1; omega)⟩⟩, d1, d2⟩
theorem yR_fr {a : Nat} {g g' : cg} (h : yR a g) (e : EQd (ydep0 a) g g') : yR a g' := by
  obtain ⟨h3, m, m1, m2, m3, m4⟩ := h
  have eb : ∀ q ∈ ([(0, 9, 9), (253, 39, 39)] : List (Nat × Int × Int)), q ∈ ydep0 a := fun q hq => List.mem_append.mpr (Or.inl hq)
  have A : ∀ (k : Nat) (lo hi : Int), (k, lo, hi) ∈ ([(0, 9, 9), (253, 39, 39)] : List (Nat × Int × Int)) → ∀ j : Nat, lo ≤ (j : Int) → (j : Int) ≤ hi → g' k j = g k j := fun k lo hi hm j j1 j2 => e _ (eb _ hm) j j1 j2
  refine ⟨h3.frx (by decide) (fun q hq => e q (List.mem_append.mpr (Or.inr (List.mem_append.mpr (Or.inl hq))))), m, m1, (A 0 9 9 (by decide) 9 (by decide) (by decide)).trans m2, (A 253 39 39 (by decide) 39 (by decide) (by decide)).trans m3, fun i hi => ?_⟩
  exact (m4 i hi).frx (by omega) (fun q hq => e q (List.mem_append.mpr (Or.inr (List.mem_append.mpr (Or.inr (List.mem_flatMap.mpr ⟨i, List.mem_range.mpr (by omega), hq⟩))))))
theorem yR_mv {a a' : Nat} {g : cg} (h : yR a g) (e : ∀ j : Nat, j < 260 → g 254 (a' + j) = g 254 (a + j)) : yR a' g := by
  obtain ⟨h3, h4⟩ := h
  exact ⟨⟨h3.1.mv ⟨⟨rfl, rfl⟩, fun _ _ => rfl, fun _ _ _ => rfl, ⟨e 0 (by decide), e 1 (by decide)⟩, fun _ _ => rfl⟩, h3.2.atz e⟩, h4⟩
/-- at 9999: the FAULT -/
def yRG (a : Nat) (g : cg) : Prop := match Nat.beq a 9999 with
  | true => RF g
  | false => yR a g
theorem yRG_fr {a : Nat} {g g' : cg} (h : yRG a g) (e : EQd (ydep a) g g') : yRG a g' := by
  unfold yRG ydep at *
  cases hb : Nat.beq a 9999 with
  | true =>
    rw [hb] at h e
    exact RF.fr h (e.at (k := 88) (lo := 10) (hi := 11) List.mem_cons_self 10 (by decide) (by decide)) (e.at (k := 88) (lo := 10) (hi := 11) List.mem_cons_self 11 (by decide) (by decide)) (e.at (k := 253) (lo := 16) (hi := 17) (List.mem_cons_of_mem _ List.mem_cons_self) 16 (by decide) (by decide)) (e.at (k := 253) (lo := 16) (hi := 17) (List.mem_cons_of_mem _ List.mem_cons_self) 17 (by decide) (by decide))
  | false =>
    rw [hb] at h e
    exact yR_fr h e
theorem yRG_mv {a a' : Nat} {g : cg} (ha : a < 9000) (ha' : a' < 9000) (h : yRG a g) (e : ∀ j : Nat, j < 260 → g 254 (a' + j) = g 254 (a + j)) : yRG a' g := by
  unfold yRG at *
  have h1 : ∀ x : Nat, x < 9000 → Nat.beq x 9999 = false := fun x hx => by
    cases hb : Nat.beq x 9999 with
    | false => rfl
    | true => have := xeqb hb; omega
  rw [h1 a ha] at h
  rw [h1 a' ha']
  exact yR_mv h e
/-- a court stays, where its cells stay -/
theorem RC.up {B a n : Nat} {g g' : cg} (h : RC B a n g) (h1 : ∀ k j : Nat, B ≤ k → k < B + 42 → g' k j = g k j) (h2 : ∀ j : Nat, a ≤ j → j < a + 260 → g' 254 j = g 254 j) (h3 : ∀ j : Nat, n ≤ j → j < n + 12 → g' 255 j = g 255 j) : RC B a n g' :=
  h.mv ⟨⟨h1 B 0 (by omega) (by omega), h1 B 3 (by omega) (by omega)⟩, fun i hi => h1 (B + 2) i (by omega) (by omega), fun i _ hi => h1 (B + 14 + 2 * i) 0 (by omega) (by omega), ⟨h2 a (by omega) (by omega), h2 (a + 1) (by omega) (by omega)⟩, fun i hi => h3 (n + i) (by omega) (by omega)⟩
theorem RCX.upx {B a s n : Nat} {g g' : cg} (h : RCX B a s n g) (h1 : ∀ k j : Nat, B ≤ k → k < B + 42 → g' k j = g k j) (h2 : ∀ j : Nat, a ≤ j → j < a + 260 → g' 254 j = g 254 j) (h4 : ∀ j : Nat, s ≤ j → j < s + 480 → g' 254 j = g 254 j) (h3 : ∀ j : Nat, n ≤ j → j < n + 12 → g' 255 j = g 255 j) : RCX B a s n g' := ⟨h.1.up h1 h2 h3, h.2.upz h1 h2 h4⟩
theorem RM.up {g g' : cg} (h : RM g) (h0 : g' 0 9 = g 0 9) (h0' : g' 253 39 = g 253 39) (h1 : ∀ k j : Nat, 127 ≤ k → k < 253 → g' k j = g k j) (h2 : ∀ j : Nat, 744 ≤ j → j < 2976 → g' 254 j = g 254 j) (h3 : ∀ j : Nat, 12 ≤ j → j < 48 → g' 255 j = g 255 j) : RM g' := by
  obtain ⟨m, m1, m2, m3, m4⟩ := h
  exact ⟨m, m1, h0.trans m2, h0'.trans m3, fun i hi => (m4 i hi).upx (fun k j k1 k2 => h1 k j (by omega) (by omega)) (fun j j1 j2 => h2 j (by omega) (by omega)) (fun j j1 j2 => h2 j (by omega) (by omega)) (fun j j1 j2 => h3 j (by omega) (by omega))⟩
/-- but for the STATUS of both -/
theorem yR_st {a : Nat} {g g' : cg} (h : yR a g) (H : ∀ k j : Nat, ¬ (k = 0 ∧ j = 0) → ¬ (k = 253 ∧ j = 2) → g' k j = g k j) : yR a g' := by
  obtain ⟨h3, h4⟩ := h
  exact ⟨h3.upx (fun k j k1 k2 => H _ _ (by omega) (by omega)) (fun j _ _ => H _ _ (by omega) (by omega)) (fun j _ _ => H _ _ (by omega) (by omega)) (fun j _ _ => H _ _ (by omega) (by omega)), h4.up (H _ _ (by omega) (by omega)) (H _ _ (by omega) (by omega)) (fun k j k1 k2 => H _ _ (by omega) (by omega)) (fun j _ _ => H _ _ (by omega) (by omega)) (fun j _ _ => H _ _ (by omega) (by omega))⟩
/-- the numbers that a call is given -/
def darl (lf : dlf) : Nat → List Int → Prop
  | _, [] => True
  | i, a :: l => lf i = (0, a) ∧ darl lf (i + 1) l
theorem darl_of {lf : dlf} : ∀ {l : List Int} {i : Nat}, dag lf (carg i (l.map (fun z => ((0 : Nat), z)))) → darl lf i l
  | [], _, _ => trivial
  | a :: l, i, h => ⟨h (i, (0, a)) List.mem_cons_self, darl_of (fun q hq => h q (List.mem_cons_of_mem _ hq))⟩
/-- what is known of a call on both sides: before, between, behind -/
def PT (z : Nat) (c g g' : cg) : Prop := yR 0 c ∧ aInv ytyt ytyp c ∧ aInv ytyt ytyp g ∧ (∀ k : Nat, 253 ≤ k → k < 270 → g k = c k) ∧ (∀ k : Nat, k < 253 → g' k = g k) ∧ EQd (xzdf z) c g ∧ EQd (xzmf z) g g' ∧ (xtr z = true → PRE c g)
def TT (sv : Nat → Int32) (L z : Nat) : Prop := ∀ (c g g' : cg) (al : List Int) (r r' : Int) (n n' : Nat) (lf lf' : dlf), PT z c g g' → (xrf z = true → RF c) → xar z xPR = some al.length → (∀ a ∈ al, cI a) → lf 0 = (4, 0) → darl lf 1 al → zr sv L n z 0 lf [] c (g, some (0, r)) → lf' 0 = (4, 253) → darl lf' 1 al → zr sv L n' (z + 1) 0 lf' [] g (g', some (0, r')) → ((xtr z = true → 0 ≤ r') → yR 0 g') ∧ r = r'
def TF (sv : Nat → Int32) (L z : Nat) : Prop := ∀ (c g g' : cg) (al : List Int) (r r' : Int) (n n' : Nat) (lf lf' : dlf), PT z c g g' → RF c → xar z xPR = some al.length → (∀ a ∈ al, cI a) → lf 0 = (4, 0) → darl lf 1 al → zr sv L n z 0 lf [] c (g, some (0, r)) → lf' 0 = (4, 253) → darl lf' 1 al → zr sv L n' (z + 1) 0 lf' [] g (g', some (0, r')) → RF g'
theorem al1 {al : List Int} (h : some 1 = some al.length) : ∃ a, al = [a] := by
  match al, Option.some.inj h with
  | [a], _ => exact ⟨a, rfl⟩
theorem al0 {al : List Int} (h : some 0 = some al.length) : al = [] := by
  match al, Option.some.inj h with
  | [], _ => rfl
theorem al2 {al : List Int} (h : some 2 = some al.length) : ∃ a b, al = [a, b] := by
  match al, Option.some.inj h with
  | [a, b], _ => exact ⟨a, b, rfl⟩
theorem al3 {al : List Int} (h : some 3 = some al.length) : ∃ a b e, al = [a, b, e] := by
  match al, Option.some.inj h with
  | [a, b, e], _ => exact ⟨a, b, e, rfl⟩
theorem al4 {al : List Int} (h : some 4 = some al.length) : ∃ a b e f, al = [a, b, e, f] := by
  match al, Option.some.inj h with
  | [a, b, e, f], _ => exact ⟨a, b, e, f, rfl⟩
theorem al5 {al : List Int} (h : some 5 = some al.length) : ∃ a b c d e, al = [a, b, c, d, e] := by
  match al, Option.some.inj h with
  | [a, b, c, d, e], _ => exact ⟨a, b, c, d, e, rfl⟩
end
section
/-! feed, on both sides -/
def FQ (c d : cg) (k : Nat) : Prop := c 0 5 = (k : Int) ∧ d 253 10 = (k : Int) ∧ (∀ j : Nat, j < k → d 259 j = c 2 j) ∧ ∀ i : Nat, i < 25 → c 89 i = kv i
section Fed
variable {sv : Nat → Int32} {L : Nat}
theorem word_l {c' d' : cg} {a : Int} : ∀ (q : Nat) {n n' : Nat} {lf lf' : dlf} {c d : cg} {k : Nat} {b : Int}, q ≤ 4 → b = 8 * (q : Int) - 8 → FQ c d k → k + q ≤ 900 → zr sv L n 31 3 lf [] c (c', none) → lf 0 = (4, 0) → lf 1 = (0, a) → lf 2 = (0, b) → zr sv L n' 164 3 lf' [] d (d', none) → lf' 0 = (4, 253) → lf' 1 = (0, a) → lf' 2 = (0, b) → FQ c' d' (k + q) ∧ d' 2 = d 2 ∧ d' 89 = d 89
  | 0, n, n', lf, lf', c, d, k, b, hq, hb, hF, hk, h, h0, h1, h2, h', h0', h1', h2' => by
    cases n with
    | zero => exact (zr_0 h).elim
    | succ n => cases n' with
      | zero => exact (zr_0 h').elim
      | succ n' =>
        rcases t_word3 h h0 h1 h2 with ⟨x, h⟩ | ⟨x, -⟩
        · rcases m_word3 h' h0' h1' h2' with ⟨x', h'⟩ | ⟨x', -⟩
          · rw [oV h, oV h']
            exact ⟨hF, rfl, rfl⟩
          · omega
        · omega
  | q + 1, n, n', lf, lf', c, d, k, b, hq, hb, hF, hk, h, h0, h1, h2, h', h0', h1', h2' => by
    cases n with
    | zero => exact (zr_0 h).elim
    | succ n => cases n' with
      | zero => exact (zr_0 h').elim
      | succ n' =>
        obtain ⟨f1, f2, f3, f4⟩ := hF
        rcases t_word3 h h0 h1 h2 with ⟨x, -⟩ | ⟨x, ⟨y, -⟩ | ⟨y, lx, z0, z1, z2, h⟩⟩
        · omega
        · omega
        · rcases m_word3 h' h0' h1' h2' with ⟨x', -⟩ | ⟨x', ly, u0, u1, u2, h'⟩
          · omega
          · rw [f1, show ((k : Nat) : Int).toNat = k from rfl, show w32 ((k : Int) + 1) = ((k + 1 : Nat) : Int) from w32_id (by omega) (by omega)] at h
            rw [f2, show ((k : Nat) : Int).toNat = k from rfl, show w32 ((k : Int) + 1) = ((k + 1 : Nat) : Int) from w32_id (by omega) (by omega)] at h'
            rw [w32_id (by omega) (by omega)] at z2 u2
            obtain ⟨r1, r2, r3⟩ := word_l q (k := k + 1) (b := b + -8) (by omega) (by omega) ⟨by rw [cup_at], by rw [cup_at], fun j hj => by
              rw [cup_ne (by omega), cup_ne (g := cup c 2 k _) (by omega)]
              by_cases e : j = k
              · rw [e, cup_at, cup_at]
              · rw [cup_ne (by omega), cup_ne (by omega)]
                exact f3 j (by omega), fun i hi => by
              rw [cup_ne (by omega), cup_ne (by omega)]
              exact f4 i hi⟩ (by omega) h z0 z1 z2 h' u0 u1 u2
            refine ⟨by rw [show k + (q + 1) = k + 1 + q by omega]; exact r1, ?_, ?_⟩
            · rw [r2, cup_row _ _ _ (by decide), cup_row _ _ _ (by decide)]
            · rw [r3, cup_row _ _ _ (by decide), cup_row _ _ _ (by decide)]
theorem word_pr {n n' : Nat} {lf lf' : dlf} {c d c' d' : cg} {k : Nat} {a : Int} (hF : FQ c d k) (hk : k + 4 ≤ 900) (h : zr sv L n 31 0 lf [] c (c', none)) (h0 : lf 0 = (4, 0)) (h1 : lf 1 = (0, a)) (h' : zr sv L n' 164 0 lf' [] d (d', none)) (h0' : lf' 0 = (4, 253)) (h1' : lf' 1 = (0, a)) : FQ c' d' (k + 4) ∧ d' 2 = d 2 ∧ d' 89 = d 89 := by
  obtain ⟨lx, z0, z1, z2, h⟩ := t_word0 h h0 h1
  obtain ⟨ly, u0, u1, u2, h'⟩ := m_word0 h' h0' h1'
  exact word_l 4 (Nat.le_refl _) rfl hF hk h z0 z1 z2 h' u0 u1 u2
theorem feed_eq {n n' : Nat} {lf lf' : dlf} {c g g' : cg} {a b e d x : Int} {rv rv' : Option cv} (hP : PRE c g) (h : zr sv L n 271 0 lf [] c (g, rv)) (h0 : lf 0 = (4, 0)) (h1 : lf 1 = (0, a)) (h2 : lf 2 = (0, b)) (h3 : lf 3 = (0, e)) (h4 : lf 4 = (0, d)) (h5 : lf 5 = (0, x)) (h' : zr sv L n' 272 0 lf' [] g (g', rv')) (h0' : lf' 0 = (4, 253)) (h1' : lf' 1 = (0, a)) (h2' : lf' 2 = (0, b)) (h3' : lf' 3 = (0, e)) (h4' : lf' 4 = (0, d)) (h5' : lf' 5 = (0, x)) : (∀ j : Nat, (j : Int) < g' 253 10 → g' 259 j = g' 2 j) ∧ ∀ i : Nat, i < 25 → g' 89 i = kv i := by
  obtain ⟨k, hk9, hk, hk', -, -, htp, hks⟩ := hP
  have hF : FQ c g k := ⟨hk, hk', htp, hks⟩
  have w : w32 ((k : Int) + 20) = (k : Int) + 20 := w32_id (by omega) (by omega)
  have h := t_feed h h0 h1 h2 h3 h4 h5
  have h' := m_feed h' h0' h1' h2' h3' h4' h5'
  rw [hk, w] at h
  rw [hk', w] at h'
  rcases h with ⟨y, c2, k2, c3, k3, c4, k4, c5, k5, c6, k6, o⟩ | ⟨y, o⟩
  · rcases h' with ⟨y', d2, l2, d3, l3, d4, l4, d5, l5, d6, l6, o'⟩ | ⟨y', o'⟩
    · obtain ⟨F2, p2, q2⟩ := word_pr hF (by omega) k2 rfl rfl l2 rfl rfl
      obtain ⟨F3, p3, q3⟩ := word_pr F2 (by omega) k3 rfl rfl l3 rfl rfl
      obtain ⟨F4, p4, q4⟩ := word_pr F3 (by omega) k4 rfl rfl l4 rfl rfl
      obtain ⟨F5, p5, q5⟩ := word_pr F4 (by omega) k5 rfl rfl l5 rfl rfl
      obtain ⟨F6, p6, q6⟩ := word_pr F5 (by omega) k6 rfl rfl l6 rfl rfl
      have eg : g = c6 := (Prod.mk.inj o).1
      have eg' : g' = d6 := (Prod.mk.inj o').1
      obtain ⟨x1, x2, x3, x4⟩ := F6
      have e2 : g' 2 = c6 2 := by rw [eg', p6, p5, p4, p3, p2, eg]
      have e89 : g' 89 = c6 89 := by rw [eg', q6, q5, q4, q3, q2, eg]
      refine ⟨fun j hj => ?_, fun i hi => by rw [e89]; exact x4 i hi⟩
      rw [eg'] at hj
      rw [e2, eg']
      exact x3 j (by omega)
    · omega
  · rcases h' with ⟨y', h'⟩ | ⟨y', o'⟩
    · omega
    · have eg : g = c := (Prod.mk.inj o).1
      have eg' : g' = g := (Prod.mk.inj o').1
      rw [eg']
      refine ⟨fun j hj => ?_, fun i hi => by rw [eg]; exact hks i hi⟩
      rw [htp j (by omega), eg]
end Fed
end
section
/-! names looked up in the court that is there, on both sides -/
def NPn (c d : cg) (n : Nat) : Prop := ∀ i : Nat, i < n → NR (c 5 i) (d 255 (0 + i))
def NQn (c d : cg) (n : Nat) : Prop := ∀ i : Nat, i < n → NR (c (17 + 2 * i) 0) (d 255 (5 + i))
section LookN
variable {sv : Nat → Int32} {L : Nat} {o : cg × Option cv}
theorem nplc_l {c : cg} {k : Nat} {w : Int} (hn : c 3 0 = (k : Int)) (h5 : k ≤ 5) : ∀ (n : Nat) {lf : dlf} {i : Nat}, lf 0 = (4, 3) → lf 1 = (2, w) → lf 3 = (0, (i : Int)) → i ≤ k → (∀ j, j < i → c 5 j ≠ w) → zr sv L n 48 2 lf [] c o → ∃ r, FI (c 5) k w r ∧ o = (c, some (0, r))
  | 0, _, _, _, _, _, _, _, h => (zr_0 h).elim
  | n + 1, lf, i, h0, h1, h3, hi, hj, h => by
    rcases t_nPlc2 h h0 h1 h3 with ⟨hc, h⟩ | ⟨hc, h⟩
    · exact ⟨-1, Or.inr ⟨fun j hjk => hj j (by omega), rfl⟩, h⟩
    · rw [hn] at hc
      have h := h (by omega) (by omega)
      rw [show ((i : Int)).toNat = i from rfl, w32_id (z := (i : Int) + 1) (by omega) (by omega)] at h
      rcases h with ⟨hx, lf', a0, a1, a3, h⟩ | ⟨hx, h⟩
      · refine nplc_l hn h5 n (i := i + 1) a0 a1 (by rw [a3]; rfl) (by omega) (fun j hj' => ?_) h
        by_cases e : j = i
        · intro z
          exact hx (csgn_z.mpr (by rw [← e, z]; omega))
        · exact hj j (by omega)
      · have hx := csgn_z.mp hx
        exact ⟨(i : Int), Or.inl ⟨i, by omega, by omega, hj, rfl⟩, h⟩
theorem nper_l {c : cg} {k : Nat} {w : Int} (hn : c 3 3 = (k : Int)) (h5 : k ≤ 6) : ∀ (n : Nat) {lf : dlf} {i : Nat}, lf 0 = (4, 3) → lf 1 = (2, w) → lf 3 = (0, (i : Int)) → i ≤ k → (∀ j : Nat, j < i → c (17 + 2 * j) 0 ≠ w) → zr sv L n 45 2 lf [] c o → ∃ r, FI (fun i => c (17 + 2 * i) 0) k w r ∧ o = (c, some (0, r))
  | 0, _, _, _, _, _, _, _, h => (zr_0 h).elim
  | n + 1, lf, i, h0, h1, h3, hi, hj, h => by
    rcases t_nPer2 h h0 h1 h3 with ⟨hc, h⟩ | ⟨hc, h⟩
    · exact ⟨-1, Or.inr ⟨fun j hjk => hj j (by omega), rfl⟩, h⟩
    · rw [hn] at hc
      have h := h (by omega) (by omega)
      rw [show ((17 : Int) + 2 * (i : Int)).toNat = 17 + 2 * i by omega, w32_id (z := (i : Int) + 1) (by omega) (by omega)] at h
      rcases h with ⟨hx, lf', a0, a1, a3, h⟩ | ⟨hx, h⟩
      · refine nper_l hn h5 n (i := i + 1) a0 a1 (by rw [a3]; rfl) (by omega) (fun j hj' => ?_) h
        by_cases e : j = i
        · intro z
          exact hx (csgn_z.mpr (by rw [← e, z]; omega))
        · exact hj j (by omega)
      · have hx := csgn_z.mp hx
        exact ⟨(i : Int), Or.inl ⟨i, by omega, by show c (17 + 2 * i) 0 = w; omega, hj, rfl⟩, h⟩
theorem nplc_ok {n : Nat} {lf : dlf} {c c1 : cg} {k : Nat} {w r : Int} (h : zr sv L n 48 0 lf [] c (c1, some (0, r))) (h0 : lf 0 = (4, 3)) (h1 : lf 1 = (2, w)) (hn : c 3 0 = (k : Int)) (h5 : k ≤ 5) : c1 = c ∧ FI (c 5) k w r := by
  obtain ⟨lf', a0, a1, a3, h⟩ := t_nPlc0 h h0 h1
  obtain ⟨r', e1, e2⟩ := nplc_l hn h5 n (i := 0) a0 a1 a3 (Nat.zero_le _) (fun j hj => absurd hj (Nat.not_lt_zero j)) h
  obtain ⟨e3, e4⟩ := oI e2
  exact ⟨e3, by rw [e4]; exact e1⟩
theorem nper_ok {n : Nat} {lf : dlf} {c c1 : cg} {k : Nat} {w r : Int} (h : zr sv L n 45 0 lf [] c (c1, some (0, r))) (h0 : lf 0 = (4, 3)) (h1 : lf 1 = (2, w)) (hn : c 3 3 = (k : Int)) (h5 : k ≤ 6) : c1 = c ∧ FI (fun i => c (17 + 2 * i) 0) k w r := by
  obtain ⟨lf', a0, a1, a3, h⟩ := t_nPer0 h h0 h1
  obtain ⟨r', e1, e2⟩ := nper_l hn h5 n (i := 0) a0 a1 a3 (Nat.zero_le _) (fun j hj => absurd hj (Nat.not_lt_zero j)) h
  obtain ⟨e3, e4⟩ := oI e2
  exact ⟨e3, by rw [e4]; exact e1⟩
variable {n n' : Nat} {lf lf' : dlf} {c d c' d' : cg} {m : Nat} {r r' : Int}
/-- passPlace(draft) and oldOne of a place -/
theorem wplc_pr {k to : Nat} (hk : k ≤ 5) (hn : c 3 0 = (k : Int)) (hN : NPn c d k) (hto : to < 5208) (hE : TE c d m) (hT : TQ c d m) (hf : d 253 18 = 0) (h : zr sv L n 47 0 lf [] c (c', some (0, r))) (h0 : lf 0 = (4, 88)) (h1 : lf 1 = (4, 3)) (h' : zr sv L n' 180 0 lf' [] d (d', some (0, r'))) (h0' : lf' 0 = (4, 253)) (h1' : lf' 1 = (0, 0)) (h2' : lf' 2 = (0, (k : Int))) (h3' : lf' 3 = (0, (to : Int))) : (r' = 1 ∧ (∃ i : Nat, i < k ∧ r = (i : Int)) ∧ SU c (cup d 254 to r) c' d' m) ∨ (r = -1 ∧ r' = 0 ∧ FLT c' d') := by
  obtain ⟨g1, r2, k1, h'⟩ := m_old h' h0' h1' h2' h3'
  obtain ⟨e1, e2⟩ := tq_name hE hT k1 rfl rfl
  rw [e1] at h'
  rw [show ((to : Int)).toNat = to from rfl] at h'
  rcases t_rPlc h h0 h1 with ⟨x1, lf2, b0, b2, h⟩ | ⟨x1, g3, r4, k2, lf2, b0, b2, h⟩
  · have hr2 : r2 = 0 := by
      rcases e2 with ⟨z1, z2⟩ | ⟨z1, z2⟩
      · exact absurd z1 x1
      · exact z2
    rcases h' with ⟨y1, y2⟩ | ⟨y1, g12, r13, k3, y2⟩
    · exact absurd hr2 y1
    · obtain ⟨e5, e6⟩ := oI y2
      rcases t_rPlc21 h b0 b2 with ⟨w1, w2⟩ | ⟨w1, ⟨w2, g4, r5, k4, w3⟩ | ⟨w2, w3⟩⟩
      · exact absurd rfl w1
      · obtain ⟨e3, e4⟩ := oI w3
        obtain ⟨z1, z2, z3⟩ := fail_pr hT hf (by decide) k4 rfl rfl k3 rfl rfl
        refine Or.inr ⟨e4, by rw [e6, z2], ?_⟩
        rw [e3, e5]
        exact z3
      · exact absurd w2 x1
  · have hr2 : r2 = 1 := by
      rcases e2 with ⟨z1, z2⟩ | ⟨z1, z2⟩
      · exact z2
      · exact absurd x1 z1
    obtain ⟨V, hV, hNR⟩ := tq_nh (sv := sv) (L := L) hE hT x1
    obtain ⟨e3, e4⟩ := nplc_ok k2 rfl rfl hn hk
    rw [e3] at h
    rcases h' with ⟨y1, g4, r5, k3, y2⟩ | ⟨y1, y2⟩
    · obtain ⟨e5, e6⟩ := fnd_ok (b := 0) (k := k) k3 rfl rfl rfl hV (by omega)
      rw [e5] at y2
      obtain ⟨e7, e8⟩ := FI_eq e4 e6 (fun i hi => NR_eq (hN i hi) hNR)
      have y2 := y2 (by omega) (by omega)
      have dr : ∀ v, cup d 254 to v 253 = d 253 := fun v => cup_row d _ _ (by decide)
      have ds : ∀ v, cup d 254 to v 260 = d 260 := fun v => cup_row d _ _ (by decide)
      rcases y2 with ⟨u1, g9, k4, u2⟩ | ⟨u1, g10, r11, k4, u2⟩
      · obtain ⟨e9, e10⟩ := oI u2
        rcases t_rPlc21 h b0 b2 with ⟨w1, g2, k5, w2⟩ | ⟨w1, w2⟩
        · obtain ⟨e11, e12⟩ := oI w2
          refine Or.inl ⟨e10, ?_, ?_⟩
          · rcases e8 with z | ⟨i, z1, z2⟩
            · exact absurd z w1
            · exact ⟨i, z1, by rw [e12, z2]⟩
          · rw [e11, e9, e12, e7]
            exact adv_su (c0 := c) (hE.up rfl rfl rfl (dr _) (ds _)) (hT.up rfl (dr _) (ds _)) (Or.inr (Or.inl x1)) k5 rfl k4 rfl
        · exact absurd (by rw [← e7]; exact w1) u1
      · obtain ⟨e9, e10⟩ := oI u2
        rcases t_rPlc21 h b0 b2 with ⟨w1, w2⟩ | ⟨w1, ⟨w2, w3⟩ | ⟨w2, g6, r7, k5, w3⟩⟩
        · exact absurd (by rw [e7]; exact u1) w1
        · exact absurd x1 w2
        · obtain ⟨e11, e12⟩ := oI w3
          obtain ⟨z1, z2, z3⟩ := fail_pr (hT.up rfl (dr r5) (ds r5)) (by rw [dr]; exact hf) (by decide) k5 rfl rfl k4 rfl rfl
          refine Or.inr ⟨by rw [e12]; exact w1, by rw [e10, z2], ?_⟩
          rw [e11, e9]
          exact z3
    · rw [hr2] at y1
      exact absurd y1 (by decide)
/-- passPerson(draft) and oldOne of a person -/
theorem wper_pr {k to : Nat} (hk : k ≤ 6) (hn : c 3 3 = (k : Int)) (hN : NQn c d k) (hto : to < 5208) (hE : TE c d m) (hT : TQ c d m) (hf : d 253 18 = 0) (h : zr sv L n 44 0 lf [] c (c', some (0, r))) (h0 : lf 0 = (4, 88)) (h1 : lf 1 = (4, 3)) (h' : zr sv L n' 180 0 lf' [] d (d', some (0, r'))) (h0' : lf' 0 = (4, 253)) (h1' : lf' 1 = (0, 5)) (h2' : lf' 2 = (0, (k : Int))) (h3' : lf' 3 = (0, (to : Int))) : (r' = 1 ∧ (∃ i : Nat, i < k ∧ r = (i : Int)) ∧ SU c (cup d 254 to r) c' d' m) ∨ (r = -1 ∧ r' = 0 ∧ FLT c' d') := by
  obtain ⟨g1, r2, k1, h'⟩ := m_old h' h0' h1' h2' h3'
  obtain ⟨e1, e2⟩ := tq_name hE hT k1 rfl rfl
  rw [e1] at h'
  rw [show ((to : Int)).toNat = to from rfl] at h'
  rcases t_rPer h h0 h1 with ⟨x1, lf2, b0, b2, h⟩ | ⟨x1, g3, r4, k2, lf2, b0, b2, h⟩
  · have hr2 : r2 = 0 := by
      rcases e2 with ⟨z1, z2⟩ | ⟨z1, z2⟩
      · exact absurd z1 x1
      · exact z2
    rcases h' with ⟨y1, y2⟩ | ⟨y1, g12, r13, k3, y2⟩
    · exact absurd hr2 y1
    · obtain ⟨e5, e6⟩ := oI y2
      rcases t_rPer21 h b0 b2 with ⟨w1, w2⟩ | ⟨w1, ⟨w2, g4, r5, k4, w3⟩ | ⟨w2, w3⟩⟩
      · exact absurd rfl w1
      · obtain ⟨e3, e4⟩ := oI w3
        obtain ⟨z1, z2, z3⟩ := fail_pr hT hf (by decide) k4 rfl rfl k3 rfl rfl
        refine Or.inr ⟨e4, by rw [e6, z2], ?_⟩
        rw [e3, e5]
        exact z3
      · exact absurd w2 x1
  · have hr2 : r2 = 1 := by
      rcases e2 with ⟨z1, z2⟩ | ⟨z1, z2⟩
      · exact z2
      · exact absurd x1 z1
    obtain ⟨V, hV, hNR⟩ := tq_nh (sv := sv) (L := L) hE hT x1
    obtain ⟨e3, e4⟩ := nper_ok k2 rfl rfl hn hk
    rw [e3] at h
    rcases h' with ⟨y1, g4, r5, k3, y2⟩ | ⟨y1, y2⟩
    · obtain ⟨e5, e6⟩ := fnd_ok (b := 5) (k := k) k3 rfl rfl rfl hV (by omega)
      rw [e5] at y2
      obtain ⟨e7, e8⟩ := FI_eq e4 e6 (fun i hi => NR_eq (hN i hi) hNR)
      have y2 := y2 (by omega) (by omega)
      have dr : ∀ v, cup d 254 to v 253 = d 253 := fun v => cup_row d _ _ (by decide)
      have ds : ∀ v, cup d 254 to v 260 = d 260 := fun v => cup_row d _ _ (by decide)
      rcases y2 with ⟨u1, g9, k4, u2⟩ | ⟨u1, g10, r11, k4, u2⟩
      · obtain ⟨e9, e10⟩ := oI u2
        rcases t_rPer21 h b0 b2 with ⟨w1, g2, k5, w2⟩ | ⟨w1, w2⟩
        · obtain ⟨e11, e12⟩ := oI w2
          refine Or.inl ⟨e10, ?_, ?_⟩
          · rcases e8 with z | ⟨i, z1, z2⟩
            · exact absurd z w1
            · exact ⟨i, z1, by rw [e12, z2]⟩
          · rw [e11, e9, e12, e7]
            exact adv_su (c0 := c) (hE.up rfl rfl rfl (dr _) (ds _)) (hT.up rfl (dr _) (ds _)) (Or.inr (Or.inl x1)) k5 rfl k4 rfl
        · exact absurd (by rw [← e7]; exact w1) u1
      · obtain ⟨e9, e10⟩ := oI u2
        rcases t_rPer21 h b0 b2 with ⟨w1, w2⟩ | ⟨w1, ⟨w2, w3⟩ | ⟨w2, g6, r7, k5, w3⟩⟩
        · exact absurd (by rw [e7]; exact u1) w1
        · exact absurd x1 w2
        · obtain ⟨e11, e12⟩ := oI w3
          obtain ⟨z1, z2, z3⟩ := fail_pr (hT.up rfl (dr r5) (ds r5)) (by rw [dr]; exact hf) (by decide) k5 rfl rfl k4 rfl rfl
          refine Or.inr ⟨by rw [e12]; exact w1, by rw [e10, z2], ?_⟩
          rw [e11, e9]
          exact z3
    · rw [hr2] at y1
      exact absurd y1 (by decide)
end LookN
end
section
/-! feed, fault, mile, mark, undo -/
section Sml
variable {sv : Nat → Int32} {L : Nat}
/-- moves() -/
theorem mv_l {d' : cg} {a b : Nat} (hab : a ≠ b) (ha : a ≤ 6) (hb : b ≤ 6) : ∀ (n : Nat) {lf : dlf} {d : cg} {i : Nat}, lf 0 = (4, 253) → lf 1 = (0, (a : Int)) → lf 2 = (0, (b : Int)) → lf 3 = (0, (i : Int)) → i ≤ 744 → zr sv L n 256 2 lf [] d (d', none) → ∃ N d1 lf1, lf1 0 = (4, 253) ∧ lf1 1 = (0, (a : Int)) ∧ lf1 2 = (0, (b : Int)) ∧ lf1 3 = (0, 0) ∧ zr sv L N 256 41 lf1 [] d1 (d', none) ∧ (∀ k : Nat, k ≠ 254 → d1 k = d k) ∧ (∀ j : Nat, j < 744 * b + i ∨ 744 * b + 744 ≤ j → d1 254 j = d 254 j) ∧ ∀ j : Nat, i ≤ j → j < 744 → d1 254 (744 * b + j) = d 254 (744 * a + j)
  | 0, _, _, _, _, _, _, _, _, h => (zr_0 h).elim
  | n + 1, lf, d, i, h0, h1, h2, h3, hi, h => by
    rcases m_moves2 h h0 h1 h2 h3 with ⟨x, lx, z0, z1, z2, z3, h⟩ | ⟨x, h⟩
    · exact ⟨n, d, lx, z0, z1, z2, z3, h, fun _ _ => rfl, fun _ _ => rfl, fun j h1 h2 => by omega⟩
    · have ea : w32 (744 * (a : Int)) = ((744 * a : Nat) : Int) := by rw [w32_id (by omega) (by omega)]; omega
      have eb : w32 (744 * (b : Int)) = ((744 * b : Nat) : Int) := by rw [w32_id (by omega) (by omega)]; omega
      have ea2 : w32 (((744 * a : Nat) : Int) + (i : Int)) = ((744 * a + i : Nat) : Int) := by rw [w32_id (by omega) (by omega)]; omega
      have eb2 : w32 (((744 * b : Nat) : Int) + (i : Int)) = ((744 * b + i : Nat) : Int) := by rw [w32_id (by omega) (by omega)]; omega
      rw [ea, ea2, eb, eb2] at h
      obtain ⟨lx, z0, z1, z2, z3, h⟩ := h (by omega) (by omega)
      rw [show (((744 * b + i : Nat) : Int)).toNat = 744 * b + i from rfl, show (((744 * a + i : Nat) : Int)).toNat = 744 * a + i from rfl] at h
      obtain ⟨N, d1, lf1, y0, y1, y2, y3, y4, y5, y6, y7⟩ := mv_l hab ha hb n (i := i + 1) z0 z1 z2 (by rw [z3, w32_id (by omega) (by omega)]; rfl) (by omega) h
      refine ⟨N, d1, lf1, y0, y1, y2, y3, y4, fun k hk => (y5 k hk).trans (cup_row _ _ _ hk), fun j hj => by rw [y6 j (by omega), cup_ne (by omega)], fun j j1 j2 => ?_⟩
      by_cases e : j = i
      · subst e
        rw [y6 _ (by omega), cup_at]
      · rw [y7 j (by omega) j2, cup_ne (by omega)]
theorem mn_l {d' : cg} {a b : Nat} (hab : a ≠ b) (ha : a ≤ 5) (hb : b ≤ 5) : ∀ (n : Nat) {lf : dlf} {d : cg} {i : Nat}, lf 0 = (4, 253) → lf 1 = (0, (a : Int)) → lf 2 = (0, (b : Int)) → lf 3 = (0, (i : Int)) → i ≤ 12 → zr sv L n 256 41 lf [] d (d', none) → (∀ k : Nat, k ≠ 255 → d' k = d k) ∧ (∀ j : Nat, j < 12 * b + i ∨ 12 * b + 12 ≤ j → d' 255 j = d 255 j) ∧ ∀ j : Nat, i ≤ j → j < 12 → d' 255 (12 * b + j) = d 255 (12 * a + j)
  | 0, _, _, _, _, _, _, _, _, h => (zr_0 h).elim
  | n + 1, lf, d, i, h0, h1, h2, h3, hi, h => by
    rcases m_moves41 h h0 h1 h2 h3 with ⟨x, h⟩ | ⟨x, h⟩
    · rw [oV h]
      exact ⟨fun _ _ => rfl, fun _ _ => rfl, fun j h1 h2 => by omega⟩
    · have ea : w32 (12 * (a : Int)) = ((12 * a : Nat) : Int) := by rw [w32_id (by omega) (by omega)]; omega
      have eb : w32 (12 * (b : Int)) = ((12 * b : Nat) : Int) := by rw [w32_id (by omega) (by omega)]; omega
      have ea2 : w32 (((12 * a : Nat) : Int) + (i : Int)) = ((12 * a + i : Nat) : Int) := by rw [w32_id (by omega) (by omega)]; omega
      have eb2 : w32 (((12 * b : Nat) : Int) + (i : Int)) = ((12 * b + i : Nat) : Int) := by rw [w32_id (by omega) (by omega)]; omega
      rw [ea, ea2, eb, eb2] at h
      obtain ⟨lx, z0, z1, z2, z3, h⟩ := h (by omega) (by omega)
      rw [show (((12 * b + i : Nat) : Int)).toNat = 12 * b + i from rfl, show (((12 * a + i : Nat) : Int)).toNat = 12 * a + i from rfl] at h
      obtain ⟨y5, y6, y7⟩ := mn_l hab ha hb n (i := i + 1) z0 z1 z2 (by rw [z3, w32_id (by omega) (by omega)]; rfl) (by omega) h
      refine ⟨fun k hk => (y5 k hk).trans (cup_row _ _ _ hk), fun j hj => by rw [y6 j (by omega), cup_ne (by omega)], fun j j1 j2 => ?_⟩
      by_cases e : j = i
      · subst e
        rw [y6 _ (by omega), cup_at]
      · rw [y7 j (by omega) j2, cup_ne (by omega)]
theorem moves_ok {n : Nat} {lf : dlf} {d d' : cg} {a b : Nat} (hab : a ≠ b) (ha : a ≤ 5) (hb : b ≤ 5) (h : zr sv L n 256 0 lf [] d (d', none)) (h0 : lf 0 = (4, 253)) (h1 : lf 1 = (0, (a : Int))) (h2 : lf 2 = (0, (b : Int))) : (∀ k : Nat, k ≠ 254 → k ≠ 255 → d' k = d k) ∧ (∀ j : Nat, j < 744 * b ∨ 744 * b + 744 ≤ j → d' 254 j = d 254 j) ∧ (∀ j : Nat, j < 744 → d' 254 (744 * b + j) = d 254 (744 * a + j)) ∧ (∀ j : Nat, j < 12 * b ∨ 12 * b + 12 ≤ j → d' 255 j = d 255 j) ∧ ∀ j : Nat, j < 12 → d' 255 (12 * b + j) = d 255 (12 * a + j) := by
  obtain ⟨lx, z0, z1, z2, z3, h⟩ := m_moves0 h h0 h1 h2
  obtain ⟨N, d1, lf1, y0, y1, y2, y3, y4, y5, y6, y7⟩ := mv_l hab (by omega) (by omega) n (i := 0) z0 z1 z2 z3 (by omega) h
  obtain ⟨w5, w6, w7⟩ := mn_l hab ha hb N (i := 0) y0 y1 y2 y3 (by omega) y4
  refine ⟨fun k k1 k2 => (w5 k k2).trans (y5 k k1), fun j hj => by rw [w5 254 (by decide)]; exact y6 j (by omega), fun j hj => by rw [w5 254 (by decide)]; exact y7 j (by omega) hj, fun j hj => by rw [w6 j (by omega), y5 255 (by decide)], fun j hj => by rw [w7 j (by omega) hj, y5 255 (by decide)]⟩
theorem CPD.sc {D S a n a' n' : Nat} {g g' g2 : cg} (h : CPD D S g g') (hD : ∀ k j : Nat, D ≤ k → k < D + 42 → g2 k j = g' k j) (h1 : ∀ j : Nat, j < 260 → g2 254 (a' + j) = g 254 (a + j)) (h2 : ∀ j : Nat, j < 12 → g2 255 (n' + j) = g 255 (n + j)) : SC S a n D a' n' g g2 := by
  obtain ⟨c1, c2, ⟨c3, c4⟩, c5, c6, c7, c8⟩ := h
  exact ⟨⟨(hD _ _ (by omega) (by omega)).trans (c2 0 (by omega)), (hD _ _ (by omega) (by omega)).trans (c2 3 (by omega))⟩, fun i hi => (hD _ _ (by omega) (by omega)).trans (c4 i hi), fun i i1 i2 => (hD _ _ (by omega) (by omega)).trans ((c5 i i1 i2).1 0 (by omega)), ⟨h1 0 (by omega), h1 1 (by omega)⟩, h2⟩
theorem CPD.sx {D S a s a' s' : Nat} {g g' g2 : cg} (h : CPD D S g g') (hD : ∀ k j : Nat, D ≤ k → k < D + 42 → g2 k j = g' k j) (h1 : ∀ j : Nat, j < 260 → g2 254 (a' + j) = g 254 (a + j)) (h2 : ∀ j : Nat, j < 480 → g2 254 (s' + j) = g 254 (s + j)) : SX S a s D a' s' g g2 := by
  obtain ⟨c1, c2, ⟨c3, c4⟩, c5, c6, c7, c8⟩ := h
  exact ⟨fun j hj n1 n2 n4 => (hD _ _ (by omega) (by omega)).trans (c2 j (by omega)), fun i hi => (hD _ _ (by omega) (by omega)).trans (c3 i hi), fun i i1 i2 => ⟨fun j hj => (hD _ _ (by omega) (by omega)).trans ((c5 i i1 i2).1 j hj), fun t ht => (hD _ _ (by omega) (by omega)).trans ((c5 i i1 i2).2 t ht)⟩, fun k k1 k2 j hj => (hD _ _ (by omega) (by omega)).trans (c6 k k1 k2 j (by omega)), ⟨(hD _ _ (by omega) (by omega)).trans (c7 0 (by omega)), fun _ => ⟨(hD _ _ (by omega) (by omega)).trans (c7 2 (by omega)), fun q r hq hr => (hD _ _ (by omega) (by omega)).trans (c8 q r hq hr)⟩⟩, h1, h2⟩
theorem call_mk {n : Nat} {lf : dlf} {g g' : cg} {m : Nat} (hm : m < 3) (h : zr sv L n 59 0 lf [] g (g', none)) (h0 : lf 0 = (4, (127 : Int) + 42 * (m : Int))) (h1 : lf 1 = (4, 3)) : CPD (127 + 42 * m) 3 g g' := by
  rcases (show m = 0 ∨ m = 1 ∨ m = 2 from by omega) with e | e | e <;> subst e
  · exact call_127_3 h h0 h1
  · exact call_169_3 h h0 h1
  · exact call_211_3 h h0 h1
theorem call_un {n : Nat} {lf : dlf} {g g' : cg} {m : Nat} (hm : m < 3) (h : zr sv L n 59 0 lf [] g (g', none)) (h0 : lf 0 = (4, 3)) (h1 : lf 1 = (4, (127 : Int) + 42 * (m : Int))) : CPD 3 (127 + 42 * m) g g' := by
  rcases (show m = 0 ∨ m = 1 ∨ m = 2 from by omega) with e | e | e <;> subst e
  · exact call_3_127 h h0 h1
  · exact call_3_169 h h0 h1
  · exact call_3_211 h h0 h1
theorem tt_mark : TT sv L 367 := by
  intro c g g' al r r' n n' lf lf' hP _ har _ h0 hl h h0' hl' h'
  obtain ⟨hR, -, -, hf, hf', -⟩ := hP
  obtain ⟨hC, m, m1, m2, m3, m4⟩ := hR
  have hR : yR 0 c := ⟨hC, m, m1, m2, m3, m4⟩
  have h := t_mark h h0
  have h' := m_mark h' h0'
  have d39 : g 253 39 = (m : Int) := by rw [hf 253 (by decide) (by decide)]; exact m3
  rcases h with ⟨x, h⟩ | ⟨x, g7, r8, k1, o⟩
  · rcases h' with ⟨x', d2, q1, d3, s4, q2, o'⟩ | ⟨x', h'⟩
    · obtain ⟨g4, k1, g5, r6, k2, o⟩ := h (by omega) (by omega)
      rw [m2] at k1
      have hm : m < 3 := by omega
      have C := call_mk hm k1 rfl rfl
      rw [d39, show w32 ((m : Int) + 1) = ((m + 1 : Nat) : Int) by rw [w32_id (by omega) (by omega)]; rfl] at q1
      obtain ⟨M1, M2, M3, M4, M5⟩ := moves_ok (a := 0) (b := m + 1) (by omega) (by omega) (by omega) q1 rfl rfl rfl
      obtain ⟨u1, u2⟩ := oI (t_give k2 rfl rfl)
      obtain ⟨v1, v2⟩ := oI (m_gives q2 rfl rfl)
      obtain ⟨w1, w2⟩ := oI o
      obtain ⟨y1, y2⟩ := oI o'
      have g49 : g4 0 9 = (m : Int) := by rw [C.1 0 (by omega)]; exact m2
      have d239 : d2 253 39 = ((m + 1 : Nat) : Int) := by rw [M1 253 (by decide) (by decide), cup_at]
      rw [g49, show w32 ((m : Int) + 1) = ((m + 1 : Nat) : Int) by rw [w32_id (by omega) (by omega)]; rfl] at u1 u2
      -- the class's cells, the reference's
      have A : ∀ k j : Nat, k < 253 → ¬ (k = 0 ∧ j = 0) → ¬ (k = 0 ∧ j = 9) → g' k j = g4 k j := fun k j e e1 e2 => by
        rw [hf' k e, w1, u1, cup_ne e1, cup_ne e2]
      have A' : ∀ k j : Nat, k < 253 → ¬ (k = 0 ∧ j = 0) → ¬ (k = 0 ∧ j = 9) → (k < 127 + 42 * m ∨ 127 + 42 * m + 42 ≤ k) → g' k j = c k j := fun k j e e1 e2 e3 => by
        rw [A k j e e1 e2, C.1 k e3]
      have G : ∀ k j : Nat, 253 ≤ k → k < 270 → g k j = c k j := fun k j e1 e2 => by rw [hf k e1 e2]
      have Bb : ∀ k j : Nat, k ≠ 254 → k ≠ 255 → 253 ≤ k → k < 270 → ¬ (k = 253 ∧ j = 2) → ¬ (k = 253 ∧ j = 39) → g' k j = c k j := fun k j e1 e2 e3 e4 e5 e6 => by
        rw [y1, v1, cup_ne e5, M1 k e1 e2, cup_ne e6, G k j e3 e4]
      have B4 : ∀ j : Nat, j < 744 * (m + 1) ∨ 744 * (m + 1) + 744 ≤ j → g' 254 j = c 254 j := fun j hj => by
        rw [y1, v1, cup_ne (by omega), M2 j hj, cup_ne (by omega), G 254 j (by omega) (by omega)]
      have B5 : ∀ j : Nat, j < 12 * (m + 1) ∨ 12 * (m + 1) + 12 ≤ j → g' 255 j = c 255 j := fun j hj => by
        rw [y1, v1, cup_ne (by omega), M4 j hj, cup_ne (by omega), G 255 j (by omega) (by omega)]
      have B4n : ∀ j : Nat, j < 744 → g' 254 (744 * (m + 1) + j) = c 254 j := fun j hj => by
        rw [y1, v1, cup_ne (by omega), M3 j hj, cup_ne (by omega), G 254 _ (by omega) (by omega), show 744 * 0 + j = j by omega]
      have B5n : ∀ j : Nat, j < 12 → g' 255 (12 * (m + 1) + j) = c 255 j := fun j hj => by
        rw [y1, v1, cup_ne (by omega), M5 j hj, cup_ne (by omega), G 255 _ (by omega) (by omega), show 12 * 0 + j = j by omega]
      refine ⟨fun _ => ⟨hC.upx (fun k j k1 k2 => A' _ _ (by omega) (by omega) (by omega) (by omega)) (fun j _ _ => B4 j (by omega)) (fun j _ _ => B4 j (by omega)) (fun j _ _ => B5 j (by omega)), m + 1, by omega, by rw [hf' 0 (by decide), w1, u1, cup_ne (by omega), cup_at], by rw [y1, v1, cup_ne (by omega), d239], fun i hi => ?_⟩, ?_⟩
      · by_cases e : i = m
        · subst e
          exact hC.mvx (by decide) (by omega) (C.sc (fun k j k1 k2 => A k j (by omega) (by omega) (by omega)) (fun j hj => by rw [B4n j (by omega), Nat.zero_add]) (fun j hj => by rw [B5n j hj, Nat.zero_add])) (C.sx (fun k j k1 k2 => A k j (by omega) (by omega) (by omega)) (fun j hj => by rw [B4n j (by omega), Nat.zero_add]) (fun j hj => by rw [Nat.add_assoc, B4n (260 + j) (by omega)]))
        · exact (m4 i (by omega)).upx (fun k j k1 k2 => A' _ _ (by omega) (by omega) (by omega) (by omega)) (fun j j1 j2 => B4 j (by omega)) (fun j j1 j2 => B4 j (by omega)) (fun j j1 j2 => B5 j (by omega))
      · rw [w2, u2, y2, v2, d239]
    · omega
  · rcases h' with ⟨x', h'⟩ | ⟨x', d5, s6, q1, o'⟩
    · omega
    · obtain ⟨u1, u2⟩ := oI (t_refuse k1 rfl rfl)
      obtain ⟨v1, v2⟩ := oI (m_refuse q1 rfl rfl)
      obtain ⟨w1, w2⟩ := oI o
      obtain ⟨y1, y2⟩ := oI o'
      refine ⟨fun _ => yR_st hR (fun k j i1 i2 => ?_), by omega⟩
      rw [y1, v1, cup_ne i2, w1, u1, cup_ne i1]
theorem tt_undo : TT sv L 369 := by
  intro c g g' al r r' n n' lf lf' hP _ har _ h0 hl h h0' hl' h'
  obtain ⟨hR, -, -, hf, hf', -⟩ := hP
  obtain ⟨hC, m, m1, m2, m3, m4⟩ := hR
  have hR : yR 0 c := ⟨hC, m, m1, m2, m3, m4⟩
  have h := t_undo h h0
  have h' := m_undo h' h0'
  have d39 : g 253 39 = (m : Int) := by rw [hf 253 (by decide) (by decide)]; exact m3
  rcases h with ⟨x, h⟩ | ⟨x, g7, r8, k1, o⟩
  · rcases h' with ⟨x', d2, q1, d3, s4, q2, o'⟩ | ⟨x', h'⟩
    · obtain ⟨p, hp⟩ : ∃ p : Nat, m = p + 1 := ⟨m - 1, by omega⟩
      have w : w32 ((m : Int) - 1) = (p : Int) := by rw [w32_id (by omega) (by omega)]; omega
      rw [m2, w] at h
      obtain ⟨g4, k1, g5, r6, k2, o⟩ := h (by omega) (by omega)
      have C := call_un (m := p) (by omega) k1 rfl rfl
      rw [d39] at q1
      obtain ⟨M1, M2, M3, M4, M5⟩ := moves_ok (a := m) (b := 0) (by omega) (by omega) (by omega) q1 rfl rfl rfl
      obtain ⟨u1, u2⟩ := oI (t_give k2 rfl rfl)
      obtain ⟨v1, v2⟩ := oI (m_gives q2 rfl rfl)
      obtain ⟨w1, w2⟩ := oI o
      obtain ⟨y1, y2⟩ := oI o'
      have g49 : g4 0 9 = (p : Int) := by rw [C.1 0 (by omega), cup_at]
      have d239 : d2 253 39 = (m : Int) := by rw [M1 253 (by decide) (by decide)]; exact d39
      rw [d239, w] at v1 v2
      have A : ∀ k j : Nat, k < 253 → ¬ (k = 0 ∧ j = 0) → g' k j = g4 k j := fun k j e e1 => by
        rw [hf' k e, w1, u1, cup_ne e1]
      have A' : ∀ k j : Nat, k < 253 → ¬ (k = 0 ∧ j = 0) → ¬ (k = 0 ∧ j = 9) → (k < 3 ∨ 45 ≤ k) → g' k j = c k j := fun k j e e1 e2 e3 => by
        rw [A k j e e1, C.1 k (by omega), cup_ne e2]
      have G : ∀ k j : Nat, 253 ≤ k → k < 270 → g k j = c k j := fun k j e1 e2 => by rw [hf k e1 e2]
      have Bb : ∀ k j : Nat, k ≠ 254 → k ≠ 255 → 253 ≤ k → k < 270 → ¬ (k = 253 ∧ j = 2) → ¬ (k = 253 ∧ j = 39) → g' k j = c k j := fun k j e1 e2 e3 e4 e5 e6 => by
        rw [y1, v1, cup_ne e5, cup_ne e6, M1 k e1 e2, G k j e3 e4]
      have B4 : ∀ j : Nat, 744 ≤ j → g' 254 j = c 254 j := fun j hj => by
        rw [y1, v1, cup_ne (by omega), cup_ne (by omega), M2 j (by omega), G 254 j (by omega) (by omega)]
      have B5 : ∀ j : Nat, 12 ≤ j → g' 255 j = c 255 j := fun j hj => by
        rw [y1, v1, cup_ne (by omega), cup_ne (by omega), M4 j (by omega), G 255 j (by omega) (by omega)]
      have B4n : ∀ j : Nat, j < 744 → g' 254 (0 + j) = c 254 (744 * (p + 1) + j) := fun j hj => by
        have q := M3 j hj
        rw [show 744 * 0 + j = 0 + j by omega, hp] at q
        rw [y1, v1, cup_ne (by omega), cup_ne (by omega), q, G 254 _ (by omega) (by omega)]
      have B5n : ∀ j : Nat, j < 12 → g' 255 (0 + j) = c 255 (12 * (p + 1) + j) := fun j hj => by
        have q := M5 j hj
        rw [show 12 * 0 + j = 0 + j by omega, hp] at q
        rw [y1, v1, cup_ne (by omega), cup_ne (by omega), q, G 255 _ (by omega) (by omega)]
      refine ⟨fun _ => ⟨?_, p, by omega, by rw [A 0 9 (by omega) (by omega)]; exact g49, by rw [y1, v1, cup_ne (by omega), cup_at], fun i hi => (m4 i (by omega)).upx (fun k j k1 k2 => A' _ _ (by omega) (by omega) (by omega) (by omega)) (fun j j1 j2 => B4 j (by omega)) (fun j j1 j2 => B4 j (by omega)) (fun j j1 j2 => B5 j (by omega))⟩, ?_⟩
      · have C0 : SC (127 + 42 * p) (744 * (p + 1)) (12 * (p + 1)) 3 0 0 (cup c 0 9 (p : Int)) g' := C.sc (fun k j k1 k2 => A k j (by omega) (by omega)) (fun j hj => by rw [B4n j (by omega), cup_ne (by omega)]) (fun j hj => by rw [B5n j hj, cup_ne (by omega)])
        have C1 : SX (127 + 42 * p) (744 * (p + 1)) (744 * (p + 1) + 260) 3 0 260 (cup c 0 9 (p : Int)) g' := C.sx (fun k j k1 k2 => A k j (by omega) (by omega)) (fun j hj => by rw [B4n j (by omega), cup_ne (by omega)]) (fun j hj => by
          have q := B4n (260 + j) (by omega)
          rw [Nat.zero_add] at q
          rw [q, cup_ne (by omega), Nat.add_assoc])
        exact ((m4 p (by omega)).upx (g' := cup c 0 9 (p : Int)) (fun k j k1 k2 => cup_ne (by omega)) (fun j _ _ => cup_ne (by omega)) (fun j _ _ => cup_ne (by omega)) (fun j _ _ => cup_ne (by omega))).mvx (by omega) (by decide) C0 C1
      · rw [w2, u2, y2, v2, g49]
    · omega
  · rcases h' with ⟨x', h'⟩ | ⟨x', d5, s6, q1, o'⟩
    · omega
    · obtain ⟨u1, u2⟩ := oI (t_refuse k1 rfl rfl)
      obtain ⟨v1, v2⟩ := oI (m_refuse q1 rfl rfl)
      obtain ⟨w1, w2⟩ := oI o
      obtain ⟨y1, y2⟩ := oI o'
      refine ⟨fun _ => yR_st hR (fun k j i1 i2 => ?_), by omega⟩
      rw [y1, v1, cup_ne i2, w1, u1, cup_ne i1]
end Sml
end
section
/-! both readers of a court: the court that is there then -/
theorem DR.rd {c d : cg} {np nq : Nat} (h : DR c d np nq) : (c 45 5 = d 254 2979 ∧ c 45 6 = d 254 2980 ∧ c 45 7 = d 254 2981 ∧ c 45 8 = d 254 2982 ∧ c 45 9 = d 254 2978) ∧ (∀ i : Nat, i < nq → (∀ j : Nat, j < 5 → c (59 + 2 * i) (j + 1) = d 254 (2991 + 6 * i + j)) ∧ ∀ h : Nat, h < 8 → c (60 + 2 * i) h = d 254 (3027 + 8 * i + h)) ∧ c 45 9 = 0 := by
  obtain ⟨⟨a1, a2⟩, a3, a4, a5, a6, a7, a8, ⟨e1, e2, e3, e4, e5, e6, e7⟩, a10⟩ := h
  refine ⟨⟨e1, e2, e3, by rw [e4, e5], by rw [e6, e7]⟩, fun i hi => ?_, e6⟩
  obtain ⟨p1, p2, p3, p4, p5, p6⟩ := a7 i hi
  refine ⟨fun j hj => ?_, p6⟩
  rcases (show j = 0 ∨ j = 1 ∨ j = 2 ∨ j = 3 ∨ j = 4 from by omega) with e | e | e | e | e <;> subst e
  · exact p1
  · exact p2
  · exact p3
  · exact p4
  · exact p5
/-- what the columns say of a court -/
theorem spd_rng {c : cg} (h : aInv ytyt ytyp c) : (0 ≤ c 3 5 ∧ c 3 5 ≤ 99) ∧ (0 ≤ c 3 6 ∧ c 3 6 ≤ 99) ∧ (0 ≤ c 3 7 ∧ c 3 7 ≤ 60) :=
  ⟨(h 3 _ _ rfl rfl).1 (0, 11, [(0, 0, 1, 0, 5), (3, 3, 1, 0, 6), (5, 5, 1, 0, 99), (6, 6, 1, 0, 99), (7, 7, 1, 0, 60), (9, 9, 1, 0, 16)]) List.mem_cons_self (5, 5, 1, 0, 99) (by decide) 5 (by decide) (by decide) ⟨by decide, by decide, by decide⟩, (h 3 _ _ rfl rfl).1 (0, 11, [(0, 0, 1, 0, 5), (3, 3, 1, 0, 6), (5, 5, 1, 0, 99), (6, 6, 1, 0, 99), (7, 7, 1, 0, 60), (9, 9, 1, 0, 16)]) List.mem_cons_self (6, 6, 1, 0, 99) (by decide) 6 (by decide) (by decide) ⟨by decide, by decide, by decide⟩, (h 3 _ _ rfl rfl).1 (0, 11, [(0, 0, 1, 0, 5), (3, 3, 1, 0, 6), (5, 5, 1, 0, 99), (6, 6, 1, 0, 99), (7, 7, 1, 0, 60), (9, 9, 1, 0, 16)]) List.mem_cons_self (7, 7, 1, 0, 60) (by decide) 7 (by decide) (by decide) ⟨by decide, by decide, by decide⟩⟩
theorem mil_rng {c : cg} (h : aInv ytyt ytyp c) {i : Nat} (hi : i < 5) : 0 ≤ c 4 i ∧ c 4 i ≤ 60 :=
  (h 4 _ _ rfl rfl).1 (0, 4, [(0, 4, 1, 0, 60)]) List.mem_cons_self (0, 4, 1, 0, 60) List.mem_cons_self i (by show (0 : Int) ≤ (i : Int); omega) (by show (i : Int) ≤ 4; omega) ⟨by show (0 : Int) ≤ (i : Int); omega, by show (i : Int) ≤ 4; omega, by show ((i : Int) - 0) % 1 = 0; omega⟩
theorem prs_rng {c : cg} (h : aInv ytyt ytyp c) {i : Nat} (hi : i < 6) : (0 ≤ c (17 + 2 * i) 2 ∧ c (17 + 2 * i) 2 ≤ 1) ∧ (0 ≤ c (17 + 2 * i) 3 ∧ c (17 + 2 * i) 3 ≤ 1) ∧ (0 ≤ c (17 + 2 * i) 5 ∧ c (17 + 2 * i) 5 ≤ 63) ∧ ∀ t : Nat, t < 8 → -1 ≤ c (18 + 2 * i) t := by
  rcases (show i = 0 ∨ i = 1 ∨ i = 2 ∨ i = 3 ∨ i = 4 ∨ i = 5 from by omega) with e | e | e | e | e | e <;> subst e
  · exact ⟨(h 17 _ _ rfl rfl).1 (0, 6, [(2, 2, 1, 0, 1), (3, 3, 1, 0, 1), (5, 5, 1, 0, 63)]) List.mem_cons_self (2, 2, 1, 0, 1) (by decide) 2 (by decide) (by decide) ⟨by decide, by decide, by decide⟩, (h 17 _ _ rfl rfl).1 (0, 6, [(2, 2, 1, 0, 1), (3, 3, 1, 0, 1), (5, 5, 1, 0, 63)]) List.mem_cons_self (3, 3, 1, 0, 1) (by decide) 3 (by decide) (by decide) ⟨by decide, by decide, by decide⟩, (h 17 _ _ rfl rfl).1 (0, 6, [(2, 2, 1, 0, 1), (3, 3, 1, 0, 1), (5, 5, 1, 0, 63)]) List.mem_cons_self (5, 5, 1, 0, 63) (by decide) 5 (by decide) (by decide) ⟨by decide, by decide, by decide⟩, fun t ht => ((h 18 _ _ rfl rfl).1 (0, 7, [(0, 7, 1, (-1), 4)]) List.mem_cons_self (0, 7, 1, (-1), 4) List.mem_cons_self t (by show (0 : Int) ≤ (t : Int); omega) (by show (t : Int) ≤ 7; omega) ⟨by show (0 : Int) ≤ (t : Int); omega, by show (t : Int) ≤ 7; omega, by show ((t : Int) - 0) % 1 = 0; omega⟩).1⟩
  · exact ⟨(h 19 _ _ rfl rfl).1 (0, 6, [(2, 2, 1, 0, 1), (3, 3, 1, 0, 1), (5, 5, 1, 0, 63)]) List.mem_cons_self (2, 2, 1, 0, 1) (by decide) 2 (by decide) (by decide) ⟨by decide, by decide, by decide⟩, (h 19 _ _ rfl rfl).1 (0, 6, [(2, 2, 1, 0, 1), (3, 3, 1, 0, 1), (5, 5, 1, 0, 63)]) List.mem_cons_self (3, 3, 1, 0, 1) (by decide) 3 (by decide) (by decide) ⟨by decide, by decide, by decide⟩, (h 19 _ _ rfl rfl).1 (0, 6, [(2, 2, 1, 0, 1), (3, 3, 1, 0, 1), (5, 5, 1, 0, 63)]) List.mem_cons_self (5, 5, 1, 0, 63) (by decide) 5 (by decide) (by decide) ⟨by decide, by decide, by decide⟩, fun t ht => ((h 20 _ _ rfl rfl).1 (0, 7, [(0, 7, 1, (-1), 4)]) List.mem_cons_self (0, 7, 1, (-1), 4) List.mem_cons_self t (by show (0 : Int) ≤ (t : Int); omega) (by show (t : Int) ≤ 7; omega) ⟨by show (0 : Int) ≤ (t : Int); omega, by show (t : Int) ≤ 7; omega, by show ((t : Int) - 0) % 1 = 0; omega⟩).1⟩
  · exact ⟨(h 21 _ _ rfl rfl).1 (0, 6, [(2, 2, 1, 0, 1), (3, 3, 1, 0, 1), (5, 5, 1, 0, 63)]) List.mem_cons_self (2, 2, 1, 0, 1) (by decide) 2 (by decide) (by decide) ⟨by decide, by decide, by decide⟩, (h 21 _ _ rfl rfl).1 (0, 6, [(2, 2, 1, 0, 1), (3, 3, 1, 0, 1), (5, 5, 1, 0, 63)]) List.mem_cons_self (3, 3, 1, 0, 1) (by decide) 3 (by decide) (by decide) ⟨by decide, by decide, by decide⟩, (h 21 _ _ rfl rfl).1 (0, 6, [(2, 2, 1, 0, 1), (3, 3, 1, 0, 1), (5, 5, 1, 0, 63)]) List.mem_cons_self (5, 5, 1, 0, 63) (by decide) 5 (by decide) (by decide) ⟨by decide, by decide, by decide⟩, fun t ht => ((h 22 _ _ rfl rfl).1 (0, 7, [(0, 7, 1, (-1), 4)]) List.mem_cons_self (0, 7, 1, (-1), 4) List.mem_cons_self t (by show (0 : Int) ≤ (t : Int); omega) (by show (t : Int) ≤ 7; omega) ⟨by show (0 : Int) ≤ (t : Int); omega, by show (t : Int) ≤ 7; omega, by show ((t : Int) - 0) % 1 = 0; omega⟩).1⟩
  · exact ⟨(h 23 _ _ rfl rfl).1 (0, 6, [(2, 2, 1, 0, 1), (3, 3, 1, 0, 1), (5, 5, 1, 0, 63)]) List.mem_cons_self (2, 2, 1, 0, 1) (by decide) 2 (by decide) (by decide) ⟨by decide, by decide, by decide⟩, (h 23 _ _ rfl rfl).1 (0, 6, [(2, 2, 1, 0, 1), (3, 3, 1, 0, 1), (5, 5, 1, 0, 63)]) List.mem_cons_self (3, 3, 1, 0, 1) (by decide) 3 (by decide) (by decide) ⟨by decide, by decide, by decide⟩, (h 23 _ _ rfl rfl).1 (0, 6, [(2, 2, 1, 0, 1), (3, 3, 1, 0, 1), (5, 5, 1, 0, 63)]) List.mem_cons_self (5, 5, 1, 0, 63) (by decide) 5 (by decide) (by decide) ⟨by decide, by decide, by decide⟩, fun t ht => ((h 24 _ _ rfl rfl).1 (0, 7, [(0, 7, 1, (-1), 4)]) List.mem_cons_self (0, 7, 1, (-1), 4) List.mem_cons_self t (by show (0 : Int) ≤ (t : Int); omega) (by show (t : Int) ≤ 7; omega) ⟨by show (0 : Int) ≤ (t : Int); omega, by show (t : Int) ≤ 7; omega, by show ((t : Int) - 0) % 1 = 0; omega⟩).1⟩
  · exact ⟨(h 25 _ _ rfl rfl).1 (0, 6, [(2, 2, 1, 0, 1), (3, 3, 1, 0, 1), (5, 5, 1, 0, 63)]) List.mem_cons_self (2, 2, 1, 0, 1) (by decide) 2 (by decide) (by decide) ⟨by decide, by decide, by decide⟩, (h 25 _ _ rfl rfl).1 (0, 6, [(2, 2, 1, 0, 1), (3, 3, 1, 0, 1), (5, 5, 1, 0, 63)]) List.mem_cons_self (3, 3, 1, 0, 1) (by decide) 3 (by decide) (by decide) ⟨by decide, by decide, by decide⟩, (h 25 _ _ rfl rfl).1 (0, 6, [(2, 2, 1, 0, 1), (3, 3, 1, 0, 1), (5, 5, 1, 0, 63)]) List.mem_cons_self (5, 5, 1, 0, 63) (by decide) 5 (by decide) (by decide) ⟨by decide, by decide, by decide⟩, fun t ht => ((h 26 _ _ rfl rfl).1 (0, 7, [(0, 7, 1, (-1), 4)]) List.mem_cons_self (0, 7, 1, (-1), 4) List.mem_cons_self t (by show (0 : Int) ≤ (t : Int); omega) (by show (t : Int) ≤ 7; omega) ⟨by show (0 : Int) ≤ (t : Int); omega, by show (t : Int) ≤ 7; omega, by show ((t : Int) - 0) % 1 = 0; omega⟩).1⟩
  · exact ⟨(h 27 _ _ rfl rfl).1 (0, 6, [(2, 2, 1, 0, 1), (3, 3, 1, 0, 1), (5, 5, 1, 0, 63)]) List.mem_cons_self (2, 2, 1, 0, 1) (by decide) 2 (by decide) (by decide) ⟨by decide, by decide, by decide⟩, (h 27 _ _ rfl rfl).1 (0, 6, [(2, 2, 1, 0, 1), (3, 3, 1, 0, 1), (5, 5, 1, 0, 63)]) List.mem_cons_self (3, 3, 1, 0, 1) (by decide) 3 (by decide) (by decide) ⟨by decide, by decide, by decide⟩, (h 27 _ _ rfl rfl).1 (0, 6, [(2, 2, 1, 0, 1), (3, 3, 1, 0, 1), (5, 5, 1, 0, 63)]) List.mem_cons_self (5, 5, 1, 0, 63) (by decide) 5 (by decide) (by decide) ⟨by decide, by decide, by decide⟩, fun t ht => ((h 28 _ _ rfl rfl).1 (0, 7, [(0, 7, 1, (-1), 4)]) List.mem_cons_self (0, 7, 1, (-1), 4) List.mem_cons_self t (by show (0 : Int) ≤ (t : Int); omega) (by show (t : Int) ≤ 7; omega) ⟨by show (0 : Int) ≤ (t : Int); omega, by show (t : Int) ≤ 7; omega, by show ((t : Int) - 0) % 1 = 0; omega⟩).1⟩
/-- the court that is read, the class's cells and the reference's apart -/
def RCp (c d : cg) : Prop := ∃ np nq : Nat, ((∀ i : Nat, i < np → NR (c 5 i) (d 255 i)) ∧ ∀ i : Nat, i < nq → NR (c (17 + 2 * i) 0) (d 255 (5 + i))) ∧ CT c d np nq 0 ∧ (∀ i : Nat, i < nq → (0 ≤ c (17 + 2 * i) 1 ∧ c (17 + 2 * i) 1 ≤ 999) ∧ c (17 + 2 * i) 4 ≠ (i : Int) ∧ ∀ t : Nat, t < 8 → c (18 + 2 * i) t < (np : Int)) ∧ c 8 0 = 0 ∧ d 254 7 = -1
theorem xnd_at {B : Nat} {g g' : cg} (h : EQd (xND B) g g') : (∀ j : Nat, j < 10 → g' B j = g B j) ∧ (∀ j : Nat, j < 5 → g' (B + 1) j = g (B + 1) j) ∧ (∀ j : Nat, j < 5 → g' (B + 2) j = g (B + 2) j) ∧ (∀ i j : Nat, i < 6 → j < 6 → g' (B + 14 + 2 * i) j = g (B + 14 + 2 * i) j) ∧ (∀ i j : Nat, i < 6 → j < 8 → g' (B + 15 + 2 * i) j = g (B + 15 + 2 * i) j) ∧ ∀ i j : Nat, i < 16 → j < 8 → g' (B + 26 + i) j = g (B + 26 + i) j := by
  have P : ∀ i : Nat, i < 6 → ∀ q ∈ [(B + 14 + 2 * i, (0 : Int), (5 : Int)), (B + 15 + 2 * i, (0 : Int), (7 : Int))], q ∈ xND B := fun i hi q hq => List.mem_append.mpr (Or.inr (List.mem_append.mpr (Or.inl (List.mem_flatMap.mpr ⟨i, List.mem_range.mpr hi, hq⟩))))
  refine ⟨fun j hj => h.at (k := B) (lo := 0) (hi := 9) (List.mem_append.mpr (Or.inl List.mem_cons_self)) j (by omega) (by omega), fun j hj => h.at (k := B + 1) (lo := 0) (hi := 4) (List.mem_append.mpr (Or.inl (List.mem_cons_of_mem _ List.mem_cons_self))) j (by omega) (by omega), fun j hj => h.at (k := B + 2) (lo := 0) (hi := 4) (List.mem_append.mpr (Or.inl (List.mem_cons_of_mem _ (List.mem_cons_of_mem _ List.mem_cons_self)))) j (by omega) (by omega), fun i j hi hj => h.at (P i hi _ List.mem_cons_self) j (by omega) (by omega), fun i j hi hj => h.at (P i hi _ (List.mem_cons_of_mem _ List.mem_cons_self)) j (by omega) (by omega), fun i j hi hj => h.at (k := B + 26 + i) (lo := 0) (hi := 7) (List.mem_append.mpr (Or.inr (List.mem_append.mpr (Or.inr (List.mem_map.mpr ⟨i, List.mem_range.mpr hi, rfl⟩))))) j (by omega) (by omega)⟩
theorem mk_in {i : Nat} (hi : i < 3) {q : Nat × Int × Int} (hq : q ∈ xND (127 + 42 * i)) : q ∈ xCD 127 ++ (xCD 169 ++ xCD 211) := by
  rcases (show i = 0 ∨ i = 1 ∨ i = 2 from by omega) with e | e | e <;> subst e
  · exact List.mem_append.mpr (Or.inl (List.mem_append.mpr (Or.inl hq)))
  · exact List.mem_append.mpr (Or.inr (List.mem_append.mpr (Or.inl (List.mem_append.mpr (Or.inl hq)))))
  · exact List.mem_append.mpr (Or.inr (List.mem_append.mpr (Or.inr (List.mem_append.mpr (Or.inl hq)))))
theorem xnd_lt {B : Nat} (hB : B ≤ 211) {q : Nat × Int × Int} (hq : q ∈ xND B) : q.1 < 253 := by
  rcases List.mem_append.mp hq with hq | hq
  · rcases List.mem_cons.mp hq with e | hq
    · rw [e]; show B < 253; omega
    · rcases List.mem_cons.mp hq with e | hq
      · rw [e]; show B + 1 < 253; omega
      · rw [List.mem_singleton.mp hq]; show B + 2 < 253; omega
  · rcases List.mem_append.mp hq with hq | hq
    · obtain ⟨i, hi, hq⟩ := List.mem_flatMap.mp hq
      have hi := List.mem_range.mp hi
      rcases List.mem_cons.mp hq with e | hq
      · rw [e]; show B + 14 + 2 * i < 253; omega
      · rw [List.mem_singleton.mp hq]; show B + 15 + 2 * i < 253; omega
    · obtain ⟨i, hi, hq⟩ := List.mem_map.mp hq
      have hi := List.mem_range.mp hi
      rw [← hq]; show B + 26 + i < 253; omega
theorem xcd_lt {B : Nat} (hB : B ≤ 211) {q : Nat × Int × Int} (hq : q ∈ xCD B) : q.1 < 253 := by
  rcases List.mem_append.mp hq with hq | hq
  · exact xnd_lt hB hq
  · rcases List.mem_cons.mp hq with e | hq
    · rw [e]; show B + 5 < 253; omega
    · obtain ⟨i, hi, hq⟩ := List.mem_map.mp hq
      have hi := List.mem_range.mp hi
      rw [← hq]; show B + 6 + i < 253; omega
theorem mk_inx {i : Nat} (hi : i < 3) {q : Nat × Int × Int} (hq : q ∈ xCD (127 + 42 * i)) : q ∈ xCD 127 ++ (xCD 169 ++ xCD 211) := by
  rcases (show i = 0 ∨ i = 1 ∨ i = 2 from by omega) with e | e | e <;> subst e
  · exact List.mem_append.mpr (Or.inl hq)
  · exact List.mem_append.mpr (Or.inr (List.mem_append.mpr (Or.inl hq)))
  · exact List.mem_append.mpr (Or.inr (List.mem_append.mpr (Or.inr hq)))
/-- a mark that no call of these touches -/
theorem mk_frx {i : Nat} {g g' : cg} (hi : i < 3) (M : ∀ q ∈ xCD 127 ++ (xCD 169 ++ xCD 211), ∀ j : Nat, q.2.1 ≤ (j : Int) → (j : Int) ≤ q.2.2 → q.1 < 253 → g' q.1 j = g q.1 j) (h4 : ∀ j : Nat, 744 ≤ j → j < 2976 → g' 254 j = g 254 j) (h5 : ∀ j : Nat, 12 ≤ j → j < 48 → g' 255 j = g 255 j) (h : RCX (127 + 42 * i) (744 * (i + 1)) (744 * (i + 1) + 260) (12 * (i + 1)) g) : RCX (127 + 42 * i) (744 * (i + 1)) (744 * (i + 1) + 260) (12 * (i + 1)) g' := by
  refine h.frx (by omega) (fun q hq j j1 j2 => ?_)
  rcases List.mem_append.mp hq with hq | hq
  · rcases List.mem_cons.mp hq with e | hq
    · subst e
      exact h4 j (by have j1 : ((744 * (i + 1) : Nat) : Int) ≤ (j : Int) := j1; omega) (by have j2 : (j : Int) ≤ ((744 * (i + 1) + 259 : Nat) : Int) := j2; omega)
    · rcases List.mem_cons.mp hq with e | hq
      · subst e
        exact h4 j (by have j1 : ((744 * (i + 1) + 260 : Nat) : Int) ≤ (j : Int) := j1; omega) (by have j2 : (j : Int) ≤ ((744 * (i + 1) + 260 + 479 : Nat) : Int) := j2; omega)
      · have e := List.mem_singleton.mp hq
        subst e
        exact h5 j (by have j1 : ((12 * (i + 1) : Nat) : Int) ≤ (j : Int) := j1; omega) (by have j2 : (j : Int) ≤ ((12 * (i + 1) + 11 : Nat) : Int) := j2; omega)
  · exact M q (mk_inx hi hq) j j1 j2 (xcd_lt (by omega) hq)
section Ct2
variable {sv : Nat → Int32} {L : Nat} {m : Nat}
theorem cm2_l {o : cg × Option cv} : ∀ (n : Nat) {lf : dlf} {g : cg} {b : Nat}, lf 0 = (4, 253) → lf 3 = (0, (b : Int)) → b ≤ 744 → zr sv L n 274 59 lf [] g o → ∃ N g1 lf1, lf1 0 = (4, 253) ∧ lf1 3 = (0, 0) ∧ zr sv L N 274 90 lf1 [] g1 o ∧ (∀ k : Nat, k ≠ 254 → g1 k = g k) ∧ (∀ j : Nat, j < b ∨ 744 ≤ j → g1 254 j = g 254 j) ∧ ∀ j : Nat, b ≤ j → j < 744 → g1 254 j = g 254 (2976 + j)
  | 0, _, _, _, _, _, _, h => (zr_0 h).elim
  | n + 1, lf, g, b, h0, h3, hb, h => by
    rcases m_court59 h h0 h3 with ⟨x1, lx, z0, z3, h⟩ | ⟨x1, h⟩
    · exact ⟨n, g, lx, z0, z3, h, fun _ _ => rfl, fun _ _ => rfl, fun j h1 h2 => by omega⟩
    · have e : w32 (2976 + (b : Int)) = ((2976 + b : Nat) : Int) := by
        rw [w32_id (by omega) (by omega)]
        omega
      rw [e] at h
      obtain ⟨lx, z0, z3, h⟩ := h (by omega) (by omega)
      rw [show ((b : Int)).toNat = b from rfl, show (((2976 + b : Nat) : Int)).toNat = 2976 + b from rfl] at h
      obtain ⟨N, g1, lf1, y0, y1, y2, y3, y4, y5⟩ := cm2_l n (b := b + 1) z0 (by rw [z3, w32_id (by omega) (by omega)]; rfl) (by omega) h
      refine ⟨N, g1, lf1, y0, y1, y2, fun k hk => (y3 k hk).trans (cup_row g _ _ hk), fun j hj => by rw [y4 j (by omega), cup_ne (by omega)], fun j j1 j2 => ?_⟩
      by_cases e : j = b
      · subst e
        rw [y4 _ (by omega), cup_at]
      · rw [y5 j (by omega) j2, cup_ne (by omega)]
theorem cn2_l {o : cg × Option cv} : ∀ (n : Nat) {lf : dlf} {g : cg} {b : Nat}, lf 0 = (4, 253) → lf 3 = (0, (b : Int)) → b ≤ 12 → zr sv L n 274 90 lf [] g o → ∃ N g1 lf1, lf1 0 = (4, 253) ∧ zr sv L N 274 117 lf1 [] g1 o ∧ (∀ k : Nat, k ≠ 255 → g1 k = g k) ∧ (∀ j : Nat, j < b ∨ 12 ≤ j → g1 255 j = g 255 j) ∧ ∀ j : Nat, b ≤ j → j < 12 → g1 255 j = g 255 (48 + j)
  | 0, _, _, _, _, _, _, h => (zr_0 h).elim
  | n + 1, lf, g, b, h0, h3, hb, h => by
    rcases m_court90 h h0 h3 with ⟨x1, lx, z0, h⟩ | ⟨x1, h⟩
    · exact ⟨n, g, lx, z0, h, fun _ _ => rfl, fun _ _ => rfl, fun j h1 h2 => by omega⟩
    · have e : w32 (48 + (b : Int)) = ((48 + b : Nat) : Int) := by
        rw [w32_id (by omega) (by omega)]
        omega
      rw [e] at h
      obtain ⟨lx, z0, z3, h⟩ := h (by omega) (by omega)
      rw [show ((b : Int)).toNat = b from rfl, show (((48 + b : Nat) : Int)).toNat = 48 + b from rfl] at h
      obtain ⟨N, g1, lf1, y0, y1, y2, y4, y5⟩ := cn2_l n (b := b + 1) z0 (by rw [z3, w32_id (by omega) (by omega)]; rfl) (by omega) h
      refine ⟨N, g1, lf1, y0, y1, fun k hk => (y2 k hk).trans (cup_row g _ _ hk), fun j hj => by rw [y4 j (by omega), cup_ne (by omega)], fun j j1 j2 => ?_⟩
      by_cases e : j = b
      · subst e
        rw [y4 _ (by omega), cup_at]
      · rw [y5 j (by omega) j2, cup_ne (by omega)]
theorem court_ok {n n' : Nat} {lf lf' : dlf} {c d c' d' : cg} {a r r' : Int} (hP : PRE c d) (h : zr sv L n 273 0 lf [] c (c', some (0, r))) (h0 : lf 0 = (4, 0)) (h1 : lf 1 = (0, a)) (h' : zr sv L n' 274 0 lf' [] d (d', some (0, r'))) (h0' : lf' 0 = (4, 253)) (h1' : lf' 1 = (0, a)) : 0 ≤ r → 0 ≤ r' → RCp c' d' := by
  intro p0 p0'
  obtain ⟨k, hk9, hk, hk', hcb, hdb, htp, hks⟩ := hP
  obtain ⟨g1, r2, k1, h⟩ := t_court h h0 h1
  obtain ⟨d1, r2', k2, h'⟩ := m_court0 h' h0' h1'
  have refuse : r2 = 0 → r2' = 0 → False := by
    intro z1 z2
    rcases h with ⟨y1, -⟩ | ⟨y1, g12, r13, k3, h⟩
    · exact absurd z1 y1
    · rcases h' with ⟨y2, -⟩ | ⟨y2, g6, r7, k4, h'⟩
      · exact absurd z2 y2
      · have e1 := (oI (t_refuse k3 rfl rfl)).2
        have e2 := (oI (m_refuse k4 rfl rfl)).2
        have e3 := (oI h).2
        have e4 := (oI h').2
        omega
  rcases t_within k1 rfl rfl rfl with ⟨x1, x2⟩ | ⟨x1, ⟨x2, x3⟩ | ⟨x2, x3⟩⟩
  · rcases m_begins0 k2 rfl rfl rfl with ⟨y1, y2⟩ | ⟨y1, y2⟩
    · exact (refuse (oI x2).2 (oI y2).2).elim
    · omega
  · rcases m_begins0 k2 rfl rfl rfl with ⟨y1, y2⟩ | ⟨y1, ⟨y2, y3⟩ | ⟨y2, y3⟩⟩
    · omega
    · exact (refuse (oI x3).2 (oI y3).2).elim
    · omega
  · rcases m_begins0 k2 rfl rfl rfl with ⟨y1, y2⟩ | ⟨y1, ⟨y2, y3⟩ | ⟨y2, ⟨y3, lx, z0, z1, z3, k3⟩ | ⟨y3, y4⟩⟩⟩
    · omega
    · omega
    · obtain ⟨ma, hma⟩ : ∃ ma : Nat, a = (ma : Int) := ⟨a.toNat, by omega⟩
      rw [hma] at z1 k3
      obtain ⟨e1, e2⟩ := oI x3
      rcases h with ⟨u1, g4, r5, k4, h⟩ | ⟨u1, h⟩
      · -- the text
        obtain ⟨N, d2, lf2, w0, k5, w1, w2, w3⟩ := tx_l (m := ma) (by omega) n' (j := 0) z0 z1 z3 (Nat.zero_le _) (fun i hi => by
          rw [cup_row d _ _ (by decide), htp i (by omega)]; exact hcb i (by omega)) (fun i hi => absurd hi (Nat.not_lt_zero i)) k3
        obtain ⟨d4, k6, he⟩ := m_begins49 k5 w0
        obtain ⟨e3, e4⟩ := oI he
        -- the class's draft
        obtain ⟨c1, k7, c2, k8, ly, v0, v2, k9⟩ := t_takeCt0 k4 rfl rfl
        obtain ⟨c0, k10, he1⟩ := t_clear k7 rfl
        have e5 := oV (t_tclear k10 rfl)
        have e6 := oV he1
        obtain ⟨g5, r6, k11, g7, k12, he2⟩ := t_tbegin k8 rfl rfl
        have e7 := oV he2
        have hmin : g5 = cup c1 90 4 0 ∧ r6 = (ma : Int) := by
          rcases t_min k11 rfl rfl with ⟨q1, q2⟩ | ⟨q1, q2⟩
          · omega
          · obtain ⟨q3, q4⟩ := oI q2
            exact ⟨q3, by omega⟩
        obtain ⟨e8, e9⟩ := hmin
        have C45 : ∀ j : Nat, c1 45 j = cup (cup (cup (cup (cup (cup (cup (cup g1 0 5 0) 45 0 0) 45 3 0) 45 5 5) 45 6 2) 45 7 10) 45 8 0) 45 9 0 45 j := fun j => by
          rw [e6, e5, cup_ne (by omega), cup_ne (by omega), cup_ne (by omega)]
        have Crow : ∀ k : Nat, k ≠ 0 → k ≠ 45 → k ≠ 50 → c1 k = c k := fun k q1 q2 q3 => by
          rw [e6, e5, cup_row _ _ _ q3, cup_row _ _ _ q3, cup_row _ _ _ q3, cup_row _ _ _ q2, cup_row _ _ _ q2, cup_row _ _ _ q2, cup_row _ _ _ q2, cup_row _ _ _ q2, cup_row _ _ _ q2, cup_row _ _ _ q2, cup_row _ _ _ q1, e1]
        rw [e8, e9] at k12
        have c3row : ∀ k : Nat, k ≠ 88 → cup (cup (cup (cup (cup c1 90 4 0) 88 2 (ma : Int)) 88 3 0) 88 10 0) 88 11 (-1) k = cup c1 90 4 0 k := fun k q => by
          rw [cup_row _ _ _ q, cup_row _ _ _ q, cup_row _ _ _ q, cup_row _ _ _ q]
        have d3row : ∀ k : Nat, k ≠ 253 → cup (cup (cup (cup (cup d2 253 10 0) 253 18 0) 253 17 (-1)) 253 14 0) 253 19 0 k = d2 k := fun k q => by
          rw [cup_row _ _ _ q, cup_row _ _ _ q, cup_row _ _ _ q, cup_row _ _ _ q, cup_row _ _ _ q]
        have hE3 : TE (cup (cup (cup (cup (cup c1 90 4 0) 88 2 (ma : Int)) 88 3 0) 88 10 0) 88 11 (-1)) (cup (cup (cup (cup (cup d2 253 10 0) 253 18 0) 253 17 (-1)) 253 14 0) 253 19 0) ma := by
          refine ⟨by omega, ?_, ?_, ?_, ?_, ?_, ?_, by rw [cup_ne (by decide), cup_at], by rw [cup_at], by rw [cup_ne (by decide), cup_ne (by decide), cup_at]⟩
          · rw [cup_ne (by decide), cup_ne (by decide), cup_ne (by decide), cup_at]
          · rw [cup_ne (by decide), cup_ne (by decide), cup_ne (by decide), cup_ne (by decide), cup_ne (by decide), w1 253 (by decide), cup_at]
          · rw [c3row 2 (by decide), cup_row _ _ _ (by decide), Crow 2 (by decide) (by decide) (by decide)]
            exact hcb
          · unfold MBY at hdb ⊢
            rw [d3row 260 (by decide)]
            intro j hj
            by_cases e : j < ma
            · rw [w2 j e, cup_row d _ _ (by decide), htp j (by omega)]; exact hcb j (by omega)
            · rw [w3 j (by omega), cup_row d _ _ (by decide)]; exact hdb j hj
          · intro j hj
            rw [d3row 260 (by decide), c3row 2 (by decide), cup_row _ _ _ (by decide), Crow 2 (by decide) (by decide) (by decide), w2 j hj, cup_row d _ _ (by decide)]
            exact htp j (by omega)
          · intro i hi
            rw [c3row 89 (by decide), cup_row _ _ _ (by decide), Crow 89 (by decide) (by decide) (by decide)]
            exact hks i hi
        obtain ⟨f1, f2, hE4, hT4⟩ := adv_ahd (a := 0) hE3 (Eq.trans (b := (0 : Int)) (by rw [cup_ne (by decide), cup_ne (by decide), cup_at]) rfl) (Eq.trans (b := (0 : Int)) (by rw [cup_ne (by decide), cup_at]) rfl) (Nat.zero_le _) k12 rfl k6 rfl
        rcases h' with ⟨u2, d5, k13, lz, v3, v4, k14⟩ | ⟨u2, h'⟩
        · obtain ⟨p1, p2, p3, p4⟩ := plain_ok k13 rfl rfl
          rw [e3] at p1
          have hE5 := ((hE4.up (c' := g7) (d' := d5) rfl rfl rfl (p1 253 (by decide)) (p1 260 (by decide))).told (g7 90 4) 0)
          have hT5 := ((hT4.up (c' := g7) (d' := d5) rfl (p1 253 (by decide)) (p1 260 (by decide))).told (g7 90 4) 0)
          rw [cup_id rfl] at hE5 hT5
          have d6 : ∀ j : Nat, cup d5 253 20 0 254 j = d5 254 j := fun j => cup_ne (by omega)
          have c7 : ∀ j : Nat, g7 45 j = c1 45 j := fun j => by
            rw [f1.row (k := 45) (by decide), c3row 45 (by decide), cup_row _ _ _ (by decide)]
          have hS : SY g7 (cup d5 253 20 0) ma 0 0 := by
            refine ⟨hE5, hT5, ⟨⟨by decide, by decide⟩, ⟨?_, ?_, ?_, ?_⟩, fun i hi => absurd hi (Nat.not_lt_zero i), fun i hi => absurd hi (Nat.not_lt_zero i), fun i hi => absurd hi (Nat.not_lt_zero i), fun i hi => absurd hi (Nat.not_lt_zero i), fun i _ hi => ⟨?_, fun h hh => ?_⟩, ⟨?_, ?_, ?_, ?_, ?_, ?_, ?_⟩, ?_⟩, ?_⟩
            · exact Eq.trans (b := (0 : Int)) (by rw [c7, C45, cup_ne (by decide), cup_ne (by decide), cup_ne (by decide), cup_ne (by decide), cup_ne (by decide), cup_ne (by decide), cup_at]) rfl
            · exact Eq.trans (b := (0 : Int)) (by rw [d6, p3 2976 (by decide) (by decide) (by decide) (by decide) (by decide) (by decide)]) rfl
            · exact Eq.trans (b := (0 : Int)) (by rw [c7, C45, cup_ne (by decide), cup_ne (by decide), cup_ne (by decide), cup_ne (by decide), cup_ne (by decide), cup_at]) rfl
            · exact Eq.trans (b := (0 : Int)) (by rw [d6, p3 2977 (by decide) (by decide) (by decide) (by decide) (by decide) (by decide)]) rfl
            · rw [d6, p3 _ (by omega) (by omega) (by omega) (by omega) (by omega) (by omega)]
            · rw [d6, show 3027 + 8 * i + h = 3027 + (8 * i + h) by omega, p4 _ (by omega)]
            · rw [c7, C45, d6, p2.1, cup_ne (by decide), cup_ne (by decide), cup_ne (by decide), cup_ne (by decide), cup_at]
            · rw [c7, C45, d6, p2.2.1, cup_ne (by decide), cup_ne (by decide), cup_ne (by decide), cup_at]
            · rw [c7, C45, d6, p2.2.2.1, cup_ne (by decide), cup_ne (by decide), cup_at]
            · rw [c7, C45, cup_ne (by decide), cup_at]
            · rw [d6, p3 2982 (by decide) (by decide) (by decide) (by decide) (by decide) (by decide)]
            · rw [c7, C45, cup_at]
            · rw [d6, p3 2978 (by decide) (by decide) (by decide) (by decide) (by decide) (by decide)]
            · refine ⟨?_, fun i hi => absurd hi (Nat.not_lt_zero i), ?_, ?_⟩
              · rw [cup_at, f1.row (k := 90) (by decide), c3row 90 (by decide), cup_at]
                exact ⟨0, 0, 0, by decide, by decide, by decide, rfl, rfl⟩
              · exact Eq.trans (b := (0 : Int)) (by rw [f1.row (k := 50) (by decide), c3row 50 (by decide), cup_row _ _ _ (by decide), e6, e5, cup_ne (by omega), cup_ne (by omega), cup_at]) rfl
              · rw [d6]; exact p2.2.2.2
            · rw [cup_ne (by decide), p1 253 (by decide), f2 253 18 (by omega), cup_ne (by decide), cup_ne (by decide), cup_ne (by decide), cup_at]
          have hb0 : ((0 : Nat) : Int) ≤ g7 88 5 := by
            obtain ⟨p, hp, -⟩ := hT5
            omega
          rw [e7] at k9
          obtain ⟨N2, d7, lw, q0, k15, hfin⟩ := ct_l (m := ma) n (b := 0) hS v0 v2 hb0 k9 v3 v4 k14
          rcases hfin with ⟨q1, np, nq, hS7⟩ | ⟨q1, hF⟩
          · have hD7 := hS7.2.2.1
            rcases h with ⟨q2, g8, k16, g9, r9, k17, h⟩ | ⟨q2, h⟩
            · have C := call_3_45 k16 rfl rfl
              have e10 := (oI (t_give k17 rfl rfl)).1
              have e11 := (oI h).1
              rcases m_court50 k15 q0 with ⟨q3, -⟩ | ⟨q3, l1, l2, l3, k18⟩
              · exact absurd hS7.2.2.2 q3
              · obtain ⟨N3, d8, l4, l5, l6, k19, l7, -, l8⟩ := cm2_l N2 (b := 0) l2 l3 (by decide) k18
                obtain ⟨N4, d9, l9, l10, k20, l11, -, l12⟩ := cn2_l N3 (b := 0) l5 l6 (by decide) k19
                obtain ⟨g10, r10, k21, he3⟩ := m_court117 k20 l10
                have e12 := (oI he3).1
                rcases m_taken k21 rfl rfl with ⟨t1, g11, r11, k22, t2⟩ | ⟨t1, t2⟩
                · have e13 := (oI t2).1
                  have e14 := (oI (m_gives k22 rfl rfl)).1
                  have D4 : ∀ j : Nat, j < 744 → d' 254 j = d7 254 (2976 + j) := fun j hj => by rw [e12, e13, e14, cup_ne (by omega), cup_ne (by omega), l11 254 (by decide), l8 j (Nat.zero_le _) hj]
                  have D5 : ∀ j : Nat, j < 12 → d' 255 j = d7 255 (48 + j) := fun j hj => by rw [e12, e13, e14, cup_ne (by omega), cup_ne (by omega), l12 j (Nat.zero_le _) hj, l7 255 (by decide)]
                  have C3 : ∀ k j : Nat, k ≠ 0 → c' k j = g8 k j := fun k j hk => by rw [e11, e10, cup_ne (by omega)]
                  have hrd := hD7.rd
                  obtain ⟨⟨a1, a2⟩, ⟨b1, b2, b3, b4⟩, b5, b6, b7, -, -, -, -, b12, b13, b14⟩ := hD7
                  obtain ⟨⟨r5, r6, r7, r8, r9⟩, rp, r0⟩ := hrd
                  obtain ⟨-, f2, ⟨f3, f4⟩, f5, -, f7, -⟩ := C
                  have F5 : ∀ i : Nat, i < nq → (∀ j : Nat, j < 6 → c' (17 + 2 * i) j = g4 (59 + 2 * i) j) ∧ ∀ t : Nat, t < 8 → c' (18 + 2 * i) t = g4 (60 + 2 * i) t := fun i hi => ⟨fun j hj => (C3 _ j (by omega)).trans ((f5 i (by omega) (by omega)).1 j hj), fun t ht => (C3 _ t (by omega)).trans ((f5 i (by omega) (by omega)).2 t ht)⟩
                  have F2 : ∀ j : Nat, j = 0 ∨ j = 3 ∨ j = 5 ∨ j = 6 ∨ j = 7 ∨ j = 8 ∨ j = 9 → c' 3 j = g4 45 j := fun j hj => (C3 3 j (by decide)).trans (f2 j hj)
                  refine ⟨np, nq, ⟨fun i hi => ?_, fun i hi => ?_⟩, ⟨⟨a1, a2, by decide⟩, ⟨?_, ?_, ?_⟩, ⟨?_, ?_, ?_⟩, ⟨?_, ?_, ?_, ?_⟩, fun i hi => ?_, fun i hi => ⟨⟨?_, ?_, ?_, ?_, ?_⟩, fun t ht => ?_⟩, fun k hk => absurd hk (Nat.not_lt_zero k)⟩, fun i hi => ?_, ?_, ?_⟩
                  · rw [C3 5 i (by omega), D5 i (by omega)]
                    have q := f4 i (by omega)
                    rw [show g8 5 i = g8 (3 + 2) i from rfl, q]
                    exact b5 i hi
                  · rw [(F5 i hi).1 0 (by decide), D5 (5 + i) (by omega), show 48 + (5 + i) = 53 + i by omega]; exact b6 i hi
                  · rw [F2 0 (by omega)]; exact b1
                  · rw [F2 3 (by omega)]; exact b3
                  · rw [F2 9 (by omega)]; exact r0
                  · rw [D4 0 (by omega)]; exact b2
                  · rw [D4 1 (by omega)]; exact b4
                  · rw [D4 2 (by omega), ← r9]; exact r0
                  · rw [F2 5 (by omega), D4 3 (by omega)]; exact r5.symm
                  · rw [F2 6 (by omega), D4 4 (by omega)]; exact r6.symm
                  · rw [F2 7 (by omega), D4 5 (by omega)]; exact r7.symm
                  · rw [F2 8 (by omega), D4 6 (by omega)]; exact r8.symm
                  · rw [C3 4 i (by omega), D4 (10 + i) (by omega), show 2976 + (10 + i) = 2986 + i by omega, show g8 4 i = g8 (3 + 1) i from rfl, f3 i (by omega)]; exact (b7 i hi).symm
                  · rw [(F5 i hi).1 1 (by decide), D4 _ (by omega), show 2976 + (15 + 6 * i) = 2991 + 6 * i + 0 by omega]; exact ((rp i hi).1 0 (by decide)).symm
                  · rw [(F5 i hi).1 2 (by decide), D4 _ (by omega), show 2976 + (16 + 6 * i) = 2991 + 6 * i + 1 by omega]; exact ((rp i hi).1 1 (by decide)).symm
                  · rw [(F5 i hi).1 3 (by decide), D4 _ (by omega), show 2976 + (17 + 6 * i) = 2991 + 6 * i + 2 by omega]; exact ((rp i hi).1 2 (by decide)).symm
                  · rw [(F5 i hi).1 4 (by decide), D4 _ (by omega), show 2976 + (18 + 6 * i) = 2991 + 6 * i + 3 by omega]; exact ((rp i hi).1 3 (by decide)).symm
                  · rw [(F5 i hi).1 5 (by decide), D4 _ (by omega), show 2976 + (19 + 6 * i) = 2991 + 6 * i + 4 by omega]; exact ((rp i hi).1 4 (by decide)).symm
                  · unfold trh
                    rw [(F5 i hi).2 t ht, D4 _ (by omega), show 2976 + (51 + 8 * i + t) = 3027 + 8 * i + t by omega]; exact ((rp i hi).2 t ht).symm
                  · obtain ⟨v1, v2, v3⟩ := b12 i hi
                    exact ⟨by rw [(F5 i hi).1 1 (by decide)]; exact v1, by rw [(F5 i hi).1 4 (by decide)]; exact v2, fun t ht => by rw [(F5 i hi).2 t ht]; exact v3 t ht⟩
                  · rw [C3 8 0 (by decide)]
                    have q := f7 0 (by decide)
                    rw [show g8 8 0 = g8 (3 + 5) 0 from rfl, q]
                    exact b13
                  · rw [D4 7 (by decide)]; exact b14
                · exfalso
                  have := hS7.2.2.2
                  rw [l11 253 (by decide), l7 253 (by decide)] at t1
                  omega
            · omega
          · rcases h with ⟨q2, h⟩ | ⟨q2, g10, r11, k16, h⟩
            · exact absurd q1 q2
            · have e10 := (oI (t_refuse k16 rfl rfl)).2
              have e11 := (oI h).2
              obtain ⟨hF1, hF2, hF3⟩ := hF
              rcases m_court50 k15 q0 with ⟨q3, l1, l2, k18⟩ | ⟨q3, -⟩
              · obtain ⟨g12, r12, k21, he3⟩ := m_court117 k18 l2
                have e12 := (oI he3).2
                rcases m_taken k21 rfl rfl with ⟨t1, t2⟩ | ⟨t1, g13, r13, k22, t2⟩
                · omega
                · have e13 := (oI t2).2
                  have e14 := (oI (m_refuse k22 rfl rfl)).2
                  omega
              · omega
        · omega
      · omega
    · omega
theorem tt_court : TT sv L 273 := by
  intro c g g' al r r' n n' lf lf' hP _ har _ h0 hl h h0' hl' h'
  obtain ⟨hR, hI, hI', hf, hf', fd, fm, hpre⟩ := hP
  have hPRE := hpre rfl
  obtain ⟨a, rfl⟩ := al1 har
  have e := court_eq hPRE h h0 hl.1 h' h0' hl'.1
  refine ⟨fun hr => ?_, e⟩
  have hr := hr rfl
  obtain ⟨np, nq, ⟨w1, w2⟩, hC, w4, w5, w6⟩ := court_ok hPRE h h0 hl.1 h' h0' hl'.1 (by omega) hr
  obtain ⟨⟨x5, x6, -⟩, ⟨x0, x3, -⟩, ⟨y0, y1, -⟩, -⟩ := id hC
  have hG : GD g np nq 0 := by
    refine ⟨spd_rng hI', fun i hi => mil_rng hI' (by omega), fun i hi => ?_, fun k hk => absurd hk (Nat.not_lt_zero k), fun i k _ hk => absurd hk (Nat.not_lt_zero k)⟩
    obtain ⟨v1, v2, v3⟩ := w4 i hi
    obtain ⟨u1, u2, u3, u4⟩ := prs_rng hI' (i := i) (by omega)
    exact ⟨by omega, by omega, v2, ⟨(g (17 + 2 * i) 5).toNat, by omega, by omega⟩, ⟨v1.1, by omega⟩, fun t ht => ⟨u4 t ht, v3 t ht⟩⟩
  have sc : SCL g g' np nq 0 := SCL.of x5 x6 (by decide) (fun k j k1 k2 => by rw [hf' k (by omega)])
  have hX : RX 3 0 260 g' := by
    unfold RX
    rw [vc_3, vd_0]
    exact ⟨np, nq, 0, hC.mv sc (fun _ _ => rfl), hG.mv x5 x6 sc, Or.inl ⟨by rw [hf' 8 (by omega)]; exact w5, w6⟩⟩
  refine ⟨⟨⟨np, nq, ⟨x5, x6⟩, ⟨by rw [hf' 3 (by omega)]; exact x0, y0, by rw [hf' 3 (by omega)]; exact x3, y1⟩, fun i hi => ?_, fun i hi => ?_⟩, hX⟩, ?_⟩
  · rw [hf' (3 + 2) (by omega), Nat.zero_add]; exact w1 i hi
  · rw [hf' (3 + 14 + 2 * i) (by omega), Nat.zero_add]; exact w2 i hi
  have D : ∀ q ∈ ([(253, 39, 39), (254, 744, 2975), (255, 12, 47)] : List (Nat × Int × Int)), ∀ j : Nat, q.2.1 ≤ (j : Int) → (j : Int) ≤ q.2.2 → g' q.1 j = c q.1 j := fun q hq j j1 j2 => by
    rw [fm q hq j j1 j2]
    have : q.1 = 253 ∨ q.1 = 254 ∨ q.1 = 255 := by
      rcases List.mem_cons.mp hq with e | hq
      · exact Or.inl (by rw [e])
      · rcases List.mem_cons.mp hq with e | hq
        · exact Or.inr (Or.inl (by rw [e]))
        · exact Or.inr (Or.inr (by rw [List.mem_singleton.mp hq]))
    rw [hf q.1 (by omega) (by omega)]
  obtain ⟨m, m1, m2, m3, m4⟩ := hR.2
  have M : ∀ q ∈ xCD 127 ++ (xCD 169 ++ xCD 211), ∀ j : Nat, q.2.1 ≤ (j : Int) → (j : Int) ≤ q.2.2 → q.1 < 253 → g' q.1 j = c q.1 j := fun q hq j j1 j2 j3 => by
    rw [hf' q.1 j3]
    exact fd q (List.mem_append.mpr (Or.inr hq)) j j1 j2
  refine ⟨m, m1, by rw [hf' 0 (by omega), fd (0, 9, 9) (List.mem_cons_self) 9 (by decide) (by decide)]; exact m2, by rw [D (253, 39, 39) (by decide) 39 (by decide) (by decide)]; exact m3, fun i hi => ?_⟩
  exact mk_frx (by omega) M (fun j j1 j2 => D (254, 744, 2975) (by decide) j (show (744 : Int) ≤ (j : Int) by omega) (show (j : Int) ≤ 2975 by omega)) (fun j j1 j2 => D (255, 12, 47) (by decide) j (show (12 : Int) ≤ (j : Int) by omega) (show (j : Int) ≤ 47 by omega)) (m4 i hi)
end Ct2
end
