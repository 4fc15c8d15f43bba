/-! what both programs have in common -/
def RF (g : cg) : Prop := g 88 10 = g 253 16 ∧ g 88 11 = g 253 17
/-- the names and numbers of a court: the class's object B, the reference's place a, names from n -/
def RC (B a n : Nat) (g : cg) : Prop := ∃ np nq : Nat, (np ≤ 5 ∧ nq ≤ 6) ∧ (g B 0 = (np : Int) ∧ g 254 a = (np : Int) ∧ g B 3 = (nq : Int) ∧ g 254 (a + 1) = (nq : Int)) ∧ (∀ i : Nat, i < np → NR (g (B + 2) i) (g 255 (n + i))) ∧ (∀ i : Nat, i < nq → NR (g (B + 14 + 2 * i) 0) (g 255 (n + 5 + i)))
/-- a court with all that it holds; its TRIALS' rows at s -/
def RCX (B a s n : Nat) (g : cg) : Prop := RC B a n g ∧ RX B a s g
def RM (g : cg) : Prop := ∃ m : Nat, m ≤ 3 ∧ g 0 9 = (m : Int) ∧ g 253 39 = (m : Int) ∧ ∀ i : Nat, i < m → RCX (127 + 42 * i) (744 * (i + 1)) (744 * (i + 1) + 260) (12 * (i + 1)) g
def yR (a : Nat) (g : cg) : Prop := RCX 3 a 260 0 g ∧ RM g
def EQd (l : List (Nat × Int × Int)) (g g' : cg) : Prop := ∀ q ∈ l, ∀ j : Nat, q.2.1 ≤ (j : Int) → (j : Int) ≤ q.2.2 → g' q.1 j = g q.1 j
theorem EQd.at {l : List (Nat × Int × Int)} {g g' : cg} (h : EQd l g g') {k : Nat} {lo hi : Int} (hm : (k, lo, hi) ∈ l) (j : Nat) (h1 : lo ≤ (j : Int)) (h2 : (j : Int) ≤ hi) : g' k j = g k j := h _ hm j h1 h2
theorem RF.fr {g g' : cg} (h : RF g) (e1 : g' 88 10 = g 88 10) (e2 : g' 88 11 = g 88 11) (e3 : g' 253 16 = g 253 16) (e4 : g' 253 17 = g 253 17) : RF g' := ⟨by rw [e1, e3]; exact h.1, by rw [e2, e4]; exact h.2⟩
/-- two courts' names and numbers that are the same, by their cells -/
def SC (B a n B' a' n' : Nat) (g g' : cg) : Prop := (g' B' 0 = g B 0 ∧ g' B' 3 = g B 3) ∧ (∀ i : Nat, i < 5 → g' (B' + 2) i = g (B + 2) i) ∧ (∀ i : Nat, (i : Int) < g B 3 → i < 6 → g' (B' + 14 + 2 * i) 0 = g (B + 14 + 2 * i) 0) ∧ (g' 254 a' = g 254 a ∧ g' 254 (a' + 1) = g 254 (a + 1)) ∧ ∀ i : Nat, i < 12 → g' 255 (n' + i) = g 255 (n + i)
theorem RC.mv {B a n B' a' n' : Nat} {g g' : cg} (h : RC B a n g) (e : SC B a n B' a' n' g g') : RC B' a' n' g' := by
  obtain ⟨np, nq, ⟨h5, h6⟩, ⟨a1, a2, a3, a4⟩, a5, a6⟩ := h
  obtain ⟨⟨e1, e2⟩, e4, e5, ⟨e6, e7⟩, e9⟩ := e
  refine ⟨np, nq, ⟨h5, h6⟩, ⟨e1.trans a1, e6.trans a2, e2.trans a3, e7.trans a4⟩, fun i hi => ?_, fun i hi => ?_⟩
  · rw [e4 i (by omega), e9 i (by omega)]; exact a5 i hi
  · rw [e5 i (by omega) (by omega), show n' + 5 + i = n' + (5 + i) by omega, e9 (5 + i) (by omega), show n + (5 + i) = n + 5 + i by omega]; exact a6 i hi
/-- what both courts hold otherwise, the same by its cells -/
def SX (B a s B' a' s' : Nat) (g g' : cg) : Prop := (∀ j : Nat, j ≤ 9 → j ≠ 1 → j ≠ 2 → j ≠ 4 → g' B' j = g B j) ∧ (∀ i : Nat, i < 5 → g' (B' + 1) i = g (B + 1) i) ∧ (∀ i : Nat, (i : Int) < g B 3 → i < 6 → (∀ j : Nat, j < 6 → g' (B' + 14 + 2 * i) j = g (B + 14 + 2 * i) j) ∧ ∀ t : Nat, t < 8 → g' (B' + 15 + 2 * i) t = g (B + 15 + 2 * i) t) ∧ (∀ k : Nat, (k : Int) < g B 9 → k < 16 → ∀ j : Nat, j < 7 → g' (B' + 26 + k) j = g (B + 26 + k) j) ∧ (g' (B' + 5) 0 = g (B + 5) 0 ∧ (g (B + 5) 0 = 1 → g' (B' + 5) 2 = g (B + 5) 2 ∧ ∀ q r : Nat, q < 8 → (r : Int) < g (B + 5) 2 → g' (B' + 6 + q) r = g (B + 6 + q) r)) ∧ (∀ j : Nat, j < 260 → g' 254 (a' + j) = g 254 (a + j)) ∧ ∀ j : Nat, j < 480 → g' 254 (s' + j) = g 254 (s + j)
def SCW (c c' : cg) (np nq N : Nat) : Prop := (∀ j : Nat, j ≤ 9 → j ≠ 1 → j ≠ 2 → j ≠ 4 → c' 3 j = c 3 j) ∧ (∀ i : Nat, i < np → c' 4 i = c 4 i) ∧ (∀ i : Nat, i < nq → (∀ j : Nat, 1 ≤ j → j ≤ 5 → c' (17 + 2 * i) j = c (17 + 2 * i) j) ∧ ∀ t : Nat, t < 8 → c' (18 + 2 * i) t = c (18 + 2 * i) t) ∧ ∀ k : Nat, k < N → ∀ j : Nat, j ≤ 6 → c' (29 + k) j = c (29 + k) j
theorem SCW.of {c c' : cg} {np nq N : Nat} (h5 : np ≤ 5) (h6 : nq ≤ 6) (hN : N ≤ 16) (h : ∀ k j : Nat, 3 ≤ k → k < 45 → c' k j = c k j) : SCW c c' np nq N := ⟨fun j _ _ _ _ => h 3 j (by omega) (by omega), fun i _ => h 4 i (by omega) (by omega), fun i hi => ⟨fun j _ _ => h _ j (by omega) (by omega), fun t _ => h _ t (by omega) (by omega)⟩, fun k hk j _ => h _ j (by omega) (by omega)⟩
theorem SCW.o {c c' : cg} {np nq N : Nat} (h : SCW c c' np nq N) {k : Nat} (hk : k < N) : ohw c' k = ohw c k ∧ ohp c' k = ohp c k ∧ ohq c' k = ohq c k ∧ oht c' k = oht c k ∧ ohs c' k = ohs c k := by
  have q := h.2.2.2 k hk
  unfold ohw ohp ohq oht ohs
  rw [q 0 (by decide), q 1 (by decide), q 2 (by decide), q 3 (by decide), q 5 (by decide)]
  exact ⟨rfl, rfl, rfl, rfl, rfl⟩
theorem GD.mvw {c c' : cg} {np nq N : Nat} (h5 : np ≤ 5) (h6 : nq ≤ 6) (h : GD c np nq N) (e : SCW c c' np nq N) : GD c' np nq N := by
  obtain ⟨⟨a1, a2, a3⟩, a4, a5, a6, a7⟩ := h
  obtain ⟨e1, e2, e3, e4⟩ := id e
  have hr : cnt (rfd c') N = cnt (rfd c) N := cnt_congr N (fun i hi => by unfold rfd; rw [e4 i hi 6 (by decide)])
  refine ⟨⟨by rw [e1 5 (by decide) (by decide) (by decide) (by decide)]; exact a1, by rw [e1 6 (by decide) (by decide) (by decide) (by decide)]; exact a2, by rw [e1 7 (by decide) (by decide) (by decide) (by decide)]; exact a3⟩, fun i hi => by rw [e2 i hi]; exact a4 i hi, fun i hi => ?_, fun k hk => ?_, fun i k hi hk => ?_⟩
  · obtain ⟨b1, b2, b3, b4, b5, b6⟩ := a5 i hi
    obtain ⟨f1, f2⟩ := e3 i hi
    refine ⟨by rw [f1 2 (by decide) (by decide)]; exact b1, by rw [f1 3 (by decide) (by decide)]; exact b2, by rw [f1 4 (by decide) (by decide)]; exact b3, by rw [f1 5 (by decide) (by decide)]; exact b4, by rw [f1 1 (by decide) (by decide), hr]; exact b5, fun t ht => ?_⟩
    unfold trh
    rw [f2 t ht]
    exact b6 t ht
  · have g := a6 k hk
    obtain ⟨-, l0, l1, l2, l3⟩ := g.v h5 h6
    obtain ⟨b0, b1, b2, b3, b4, b5, b6, b7⟩ := g
    have q := e4 k hk
    obtain ⟨o0, o1, o2, o3, o5⟩ := e.o hk
    refine ⟨by rw [q 0 (by decide)]; exact b0, by rw [q 1 (by decide)]; exact b1, by rw [q 2 (by decide)]; exact b2, by rw [q 3 (by decide)]; exact b3, by rw [q 4 (by decide)]; exact b4, by rw [q 5 (by decide)]; exact b5, by rw [q 6 (by decide)]; exact b6, ?_⟩
    rw [o5, o1, o3, o2, q 6 (by decide)]
    unfold trh
    rw [(e3 _ l1).2 _ l3]
    exact b7
  · obtain ⟨i0, i1, i2, i3, i5⟩ := e.o (show i < N by omega)
    obtain ⟨k0, k1, k2, k3, k5⟩ := e.o hk
    rw [i5, k5, i1, k1, i3, k3, i0, k0]
    exact a7 i k hi hk
theorem CT.mvw {c c' d d' : cg} {np nq N : Nat} (h : CT c d np nq N) (e : SCW c c' np nq N) (hd : ∀ j : Nat, j < 260 → d' 254 j = d 254 j) : CT c' d' np nq N := by
  obtain ⟨⟨a1, a2, a3⟩, ⟨b1, b2, b3⟩, ⟨c1, c2, c3⟩, ⟨d1, d2, d3, d4⟩, h5, h6, h7⟩ := h
  obtain ⟨e1, e2, e3, e4⟩ := e
  refine ⟨⟨a1, a2, a3⟩, ⟨by rw [e1 0 (by decide) (by decide) (by decide) (by decide)]; exact b1, by rw [e1 3 (by decide) (by decide) (by decide) (by decide)]; exact b2, by rw [e1 9 (by decide) (by decide) (by decide) (by decide)]; exact b3⟩, ⟨by rw [hd 0 (by decide)]; exact c1, by rw [hd 1 (by decide)]; exact c2, by rw [hd 2 (by decide)]; exact c3⟩, ⟨by rw [hd 3 (by decide), e1 5 (by decide) (by decide) (by decide) (by decide)]; exact d1, by rw [hd 4 (by decide), e1 6 (by decide) (by decide) (by decide) (by decide)]; exact d2, by rw [hd 5 (by decide), e1 7 (by decide) (by decide) (by decide) (by decide)]; exact d3, by rw [hd 6 (by decide), e1 8 (by decide) (by decide) (by decide) (by decide)]; exact d4⟩, fun i hi => by rw [hd _ (by omega), e2 i hi]; exact h5 i hi, fun i hi => ?_, fun k hk j hj => by rw [hd _ (by omega), e4 k hk j (by omega)]; exact h7 k hk j hj⟩
  obtain ⟨⟨p1, p2, p3, p4, p5⟩, p6⟩ := h6 i hi
  obtain ⟨f1, f2⟩ := e3 i hi
  refine ⟨⟨?_, ?_, ?_, ?_, ?_⟩, fun t ht => ?_⟩
  · rw [hd _ (by omega), f1 1 (by decide) (by decide)]; exact p1
  · rw [hd _ (by omega), f1 2 (by decide) (by decide)]; exact p2
  · rw [hd _ (by omega), f1 3 (by decide) (by decide)]; exact p3
  · rw [hd _ (by omega), f1 4 (by decide) (by decide)]; exact p4
  · rw [hd _ (by omega), f1 5 (by decide) (by decide)]; exact p5
  · rw [hd _ (by omega)]
    unfold trh
    rw [f2 t ht]
    exact p6 t ht
theorem RDT.mvw {c d c2 d2 : cg} (h : RDT c d) (e1 : ∀ np nq N : Nat, np ≤ 5 → nq ≤ 6 → N ≤ 16 → c 3 0 = (np : Int) → c 3 3 = (nq : Int) → c 3 9 = (N : Int) → SCW c c2 np nq N) (e2 : ∀ j : Nat, j < 260 → d2 254 j = d 254 j) (e0 : c2 8 0 = c 8 0) (hc : c 8 0 = 1 → c2 8 2 = c 8 2 ∧ ∀ k r : Nat, 9 ≤ k → k ≤ 16 → (r : Int) < c 8 2 → c2 k r = c k r) (hd : ∀ j : Nat, 260 ≤ j → j < 740 → d2 254 j = d 254 j) : RDT c2 d2 := by
  obtain ⟨np, nq, N, hC, hG, hT⟩ := h
  obtain ⟨⟨q5, q6, qN⟩, ⟨a1, a2, a3⟩, -⟩ := id hC
  have s := e1 np nq N q5 q6 qN a1 a2 a3
  exact ⟨np, nq, N, hC.mvw s e2, hG.mvw q5 q6 s, hT.mvr e0 (e2 7 (by decide)) hc hd⟩
theorem RX.mvx {B a s B' a' s' : Nat} {g g' : cg} (h : RX B a s g) (hB : 3 ≤ B) (hB' : 3 ≤ B') (e : SX B a s B' a' s' g g') : RX B' a' s' g' := by
  obtain ⟨e1, e2, e3, e4, ⟨e5, e67⟩, e8, e9⟩ := e
  have V : ∀ (X : Nat) (f : cg) (k j : Nat), 3 ≤ X → vc X f (3 + k) j = f (X + k) j := fun X f k j hX => by
    show f (3 + k + X - 3) j = f (X + k) j
    rw [show 3 + k + X - 3 = X + k by omega]
  have V0 : ∀ (X : Nat) (f : cg) (j : Nat), 3 ≤ X → vc X f 3 j = f X j := fun X f j hX => V X f 0 j hX
  refine RDT.mvw h (fun np nq N q5 q6 qN c0 c3 c9 => ⟨fun j hj j1 j2 j4 => ?_, fun i hi => ?_, fun i hi => ⟨fun j j1 j2 => ?_, fun t ht => ?_⟩, fun k hk j hj => ?_⟩) (fun j hj => by rw [vd_lo hj, vd_lo hj]; exact e8 j hj) ?_ (fun ht1 => ⟨?_, fun k r k1 k2 hr => ?_⟩) (fun j j1 j2 => by rw [vd_hi j1, vd_hi j1]; exact e9 _ (by omega))
  · rw [V0 _ _ _ hB', V0 _ _ _ hB]
    exact e1 j hj j1 j2 j4
  · rw [show (4 : Nat) = 3 + 1 from rfl, V _ _ _ _ hB', V _ _ _ _ hB]
    exact e2 i (by omega)
  · rw [V0 _ _ _ hB] at c3
    rw [show 17 + 2 * i = 3 + (14 + 2 * i) by omega, V _ _ _ _ hB', V _ _ _ _ hB, ← Nat.add_assoc, ← Nat.add_assoc]
    exact (e3 i (by omega) (by omega)).1 j (by omega)
  · rw [V0 _ _ _ hB] at c3
    rw [show 18 + 2 * i = 3 + (15 + 2 * i) by omega, V _ _ _ _ hB', V _ _ _ _ hB, ← Nat.add_assoc, ← Nat.add_assoc]
    exact (e3 i (by omega) (by omega)).2 t ht
  · rw [V0 _ _ _ hB] at c9
    rw [show 29 + k = 3 + (26 + k) by omega, V _ _ _ _ hB', V _ _ _ _ hB, ← Nat.add_assoc, ← Nat.add_assoc]
    exact e4 k (by omega) (by omega) j (by omega)
  · rw [show (8 : Nat) = 3 + 5 from rfl, V _ _ _ _ hB', V _ _ _ _ hB]
    exact e5
  · rw [show (8 : Nat) = 3 + 5 from rfl, V _ _ _ _ hB] at ht1
    rw [show (8 : Nat) = 3 + 5 from rfl, V _ _ _ _ hB', V _ _ _ _ hB]
    exact (e67 ht1).1
  · rw [show (8 : Nat) = 3 + 5 from rfl, V _ _ _ _ hB] at hr ht1
    rw [show k = 3 + (6 + (k - 9)) by omega, V _ _ _ _ hB', V _ _ _ _ hB, ← Nat.add_assoc, ← Nat.add_assoc]
    exact (e67 ht1).2 (k - 9) r (by omega) hr
theorem RCX.mvx {B a s n B' a' s' n' : Nat} {g g' : cg} (h : RCX B a s n g) (hB : 3 ≤ B) (hB' : 3 ≤ B') (e : SC B a n B' a' n' g g') (e' : SX B a s B' a' s' g g') : RCX B' a' s' n' g' := ⟨h.1.mv e, h.2.mvx hB hB' e'⟩
def cdep (B a s n : Nat) : List (Nat × Int × Int) := [(254, (a : Int), ((a + 259 : Nat) : Int)), (254, (s : Int), ((s + 479 : Nat) : Int)), (255, (n : Int), ((n + 11 : Nat) : Int))] ++ xCD B
def ydep0 (a : Nat) : List (Nat × Int × Int) := [(0, 9, 9), (253, 39, 39)] ++ (cdep 3 a 260 0 ++ (List.range 3).flatMap (fun i => cdep (127 + 42 * i) (744 * (i + 1)) (744 * (i + 1) + 260) (12 * (i + 1))))
def ydep (a : Nat) : List (Nat × Int × Int) := match Nat.beq a 9999 with
  | true => [(88, 10, 11), (253, 16, 17)]
  | false => ydep0 a
/-- a court whose cells are left alone -/
theorem xcd_at {B : Nat} {g g' : cg} (h : EQd (xCD B) g g') : (∀ j : Nat, j < 10 → g' B j = g B j) ∧ (∀ j : Nat, j < 5 → g' (B + 1) j = g (B + 1) j) ∧ (∀ j : Nat, j < 5 → g' (B + 2) j = g (B + 2) j) ∧ (∀ i j : Nat, i < 6 → j < 6 → g' (B + 14 + 2 * i) j = g (B + 14 + 2 * i) j) ∧ (∀ i j : Nat, i < 6 → j < 8 → g' (B + 15 + 2 * i) j = g (B + 15 + 2 * i) j) ∧ (∀ i j : Nat, i < 16 → j < 8 → g' (B + 26 + i) j = g (B + 26 + i) j) ∧ (∀ j : Nat, j < 3 → g' (B + 5) j = g (B + 5) j) ∧ ∀ q r : Nat, q < 8 → r < 60 → g' (B + 6 + q) r = g (B + 6 + q) r := by
  have N : ∀ q ∈ xND B, q ∈ xCD B := fun q hq => List.mem_append.mpr (Or.inl hq)
  have P : ∀ i : Nat, i < 6 → ∀ q ∈ [(B + 14 + 2 * i, (0 : Int), (5 : Int)), (B + 15 + 2 * i, (0 : Int), (7 : Int))], q ∈ xCD B := fun i hi q hq => N _ (List.mem_append.mpr (Or.inr (List.mem_append.mpr (Or.inl (List.mem_flatMap.mpr ⟨i, List.mem_range.mpr hi, hq⟩)))))
  refine ⟨fun j hj => h.at (k := B) (lo := 0) (hi := 9) (N _ (List.mem_append.mpr (Or.inl List.mem_cons_self))) j (by omega) (by omega), fun j hj => h.at (k := B + 1) (lo := 0) (hi := 4) (N _ (List.mem_append.mpr (Or.inl (List.mem_cons_of_mem _ List.mem_cons_self)))) j (by omega) (by omega), fun j hj => h.at (k := B + 2) (lo := 0) (hi := 4) (N _ (List.mem_append.mpr (Or.inl (List.mem_cons_of_mem _ (List.mem_cons_of_mem _ List.mem_cons_self))))) j (by omega) (by omega), fun i j hi hj => h.at (P i hi _ List.mem_cons_self) j (by omega) (by omega), fun i j hi hj => h.at (P i hi _ (List.mem_cons_of_mem _ List.mem_cons_self)) j (by omega) (by omega), fun i j hi hj => h.at (k := B + 26 + i) (lo := 0) (hi := 7) (N _ (List.mem_append.mpr (Or.inr (List.mem_append.mpr (Or.inr (List.mem_map.mpr ⟨i, List.mem_range.mpr hi, rfl⟩)))))) j (by omega) (by omega), fun j hj => h.at (k := B + 5) (lo := 0) (hi := 2) (List.mem_append.mpr (Or.inr List.mem_cons_self)) j (by omega) (by omega), fun q r hq hr => h.at (k := B + 6 + q) (lo := 0) (hi := 59) (List.mem_append.mpr (Or.inr (List.mem_cons_of_mem _ (List.mem_map.mpr ⟨q, List.mem_range.mpr hq, rfl⟩)))) r (by omega) (by omega)⟩
/-- how many rows the TRIALS have -/
theorem RX.r60 {B a s : Nat} {g : cg} (hB : 3 ≤ B) (h : RX B a s g) : g (B + 5) 0 = 1 → g (B + 5) 2 ≤ 60 := by
  intro h1
  obtain ⟨np, nq, N, -, -, hT⟩ := h
  have e0 : vc B g 8 0 = g (B + 5) 0 := by
    show g (8 + B - 3) 0 = _
    rw [show 8 + B - 3 = B + 5 by omega]
  have e2 : vc B g 8 2 = g (B + 5) 2 := by
    show g (8 + B - 3) 2 = _
    rw [show 8 + B - 3 = B + 5 by omega]
  rcases hT with ⟨t1, -⟩ | ⟨t1, nn, t2, t3, -⟩ <;> omega
theorem RCX.frx {B a s n : Nat} {g g' : cg} (hB : 3 ≤ B) (h : RCX B a s n g) (e : EQd (cdep B a s n) g g') : RCX B a s n g' := by
  have ec : EQd (xCD B) g g' := fun q hq => e q (List.mem_append.mpr (Or.inr hq))
  have d1 : ∀ j : Nat, j < 260 → g' 254 (a + j) = g 254 (a + j) := fun j hj => e.at (k := 254) (lo := (a : Int)) (hi := ((a + 259 : Nat) : Int)) (List.mem_append.mpr (Or.inl List.mem_cons_self)) (a + j) (by omega) (by omega)
  have d2 : ∀ j : Nat, j < 480 → g' 254 (s + j) = g 254 (s + j) := fun j hj => e.at (k := 254) (lo := (s : Int)) (hi := ((s + 479 : Nat) : Int)) (List.mem_append.mpr (Or.inl (List.mem_cons_of_mem _ List.mem_cons_self))) (s + j) (by omega) (by omega)
  have d3 : ∀ j : Nat, j < 12 → g' 255 (n + j) = g 255 (n + j) := fun j hj => e.at (k := 255) (lo := (n : Int)) (hi := ((n + 11 : Nat) : Int)) (List.mem_append.mpr (Or.inl (List.mem_cons_of_mem _ (List.mem_cons_of_mem _ List.mem_cons_self)))) (n + j) (by omega) (by omega)
  obtain ⟨x0, x1, x2, x3, x4, x5, x6, x7⟩ := xcd_at ec
  have hr := h.2.r60 hB
  exact h.mvx hB hB ⟨⟨x0 0 (by decide), x0 3 (by decide)⟩, x2, fun i _ hi => x3 i 0 hi (by decide), ⟨d1 0 (by decide), d1 1 (by decide)⟩, d3⟩ ⟨fun j hj _ _ _ => x0 j (by omega), x1, fun i _ hi => ⟨fun j hj => x3 i j hi hj, fun t ht => x4 i t hi ht⟩, fun k _ hk j hj => x5 k j hk (by omega), ⟨x6 0 (by decide), fun h1 => ⟨x6 2 (by decide), fun q r hq hr2 => x7 q r hq (by have := hr h1; omega)⟩⟩, d1, d2⟩
theorem yR_fr {a : Nat} {g g' : cg} (h : yR a g) (e : EQd (ydep0 a) g g') : yR a g' := by
  obtain ⟨h3, m, m1, m2, m3, m4⟩ := h
  have eb : ∀ q ∈ ([(0, 9, 9), (253, 39, 39)] : List (Nat × Int × Int)), q ∈ ydep0 a := fun q hq => List.mem_append.mpr (Or.inl hq)
  have A : ∀ (k : Nat) (lo hi : Int), (k, lo, hi) ∈ ([(0, 9, 9), (253, 39, 39)] : List (Nat × Int × Int)) → ∀ j : Nat, lo ≤ (j : Int) → (j : Int) ≤ hi → g' k j = g k j := fun k lo hi hm j j1 j2 => e _ (eb _ hm) j j1 j2
  refine ⟨h3.frx (by decide) (fun q hq => e q (List.mem_append.mpr (Or.inr (List.mem_append.mpr (Or.inl hq))))), m, m1, (A 0 9 9 (by decide) 9 (by decide) (by decide)).trans m2, (A 253 39 39 (by decide) 39 (by decide) (by decide)).trans m3, fun i hi => ?_⟩
  exact (m4 i hi).frx (by omega) (fun q hq => e q (List.mem_append.mpr (Or.inr (List.mem_append.mpr (Or.inr (List.mem_flatMap.mpr ⟨i, List.mem_range.mpr (by omega), hq⟩))))))
theorem yR_mv {a a' : Nat} {g : cg} (h : yR a g) (e : ∀ j : Nat, j < 260 → g 254 (a' + j) = g 254 (a + j)) : yR a' g := by
  obtain ⟨h3, h4⟩ := h
  exact ⟨⟨h3.1.mv ⟨⟨rfl, rfl⟩, fun _ _ => rfl, fun _ _ _ => rfl, ⟨e 0 (by decide), e 1 (by decide)⟩, fun _ _ => rfl⟩, h3.2.atz e⟩, h4⟩
/-- at 9999: the FAULT -/
def yRG (a : Nat) (g : cg) : Prop := match Nat.beq a 9999 with
  | true => RF g
  | false => yR a g
theorem yRG_fr {a : Nat} {g g' : cg} (h : yRG a g) (e : EQd (ydep a) g g') : yRG a g' := by
  unfold yRG ydep at *
  cases hb : Nat.beq a 9999 with
  | true =>
    rw [hb] at h e
    exact RF.fr h (e.at (k := 88) (lo := 10) (hi := 11) List.mem_cons_self 10 (by decide) (by decide)) (e.at (k := 88) (lo := 10) (hi := 11) List.mem_cons_self 11 (by decide) (by decide)) (e.at (k := 253) (lo := 16) (hi := 17) (List.mem_cons_of_mem _ List.mem_cons_self) 16 (by decide) (by decide)) (e.at (k := 253) (lo := 16) (hi := 17) (List.mem_cons_of_mem _ List.mem_cons_self) 17 (by decide) (by decide))
  | false =>
    rw [hb] at h e
    exact yR_fr h e
theorem yRG_mv {a a' : Nat} {g : cg} (ha : a < 9000) (ha' : a' < 9000) (h : yRG a g) (e : ∀ j : Nat, j < 260 → g 254 (a' + j) = g 254 (a + j)) : yRG a' g := by
  unfold yRG at *
  have h1 : ∀ x : Nat, x < 9000 → Nat.beq x 9999 = false := fun x hx => by
    cases hb : Nat.beq x 9999 with
    | false => rfl
    | true => have := xeqb hb; omega
  rw [h1 a ha] at h
  rw [h1 a' ha']
  exact yR_mv h e
/-- a court stays, where its cells stay -/
theorem RC.up {B a n : Nat} {g g' : cg} (h : RC B a n g) (h1 : ∀ k j : Nat, B ≤ k → k < B + 42 → g' k j = g k j) (h2 : ∀ j : Nat, a ≤ j → j < a + 260 → g' 254 j = g 254 j) (h3 : ∀ j : Nat, n ≤ j → j < n + 12 → g' 255 j = g 255 j) : RC B a n g' :=
  h.mv ⟨⟨h1 B 0 (by omega) (by omega), h1 B 3 (by omega) (by omega)⟩, fun i hi => h1 (B + 2) i (by omega) (by omega), fun i _ hi => h1 (B + 14 + 2 * i) 0 (by omega) (by omega), ⟨h2 a (by omega) (by omega), h2 (a + 1) (by omega) (by omega)⟩, fun i hi => h3 (n + i) (by omega) (by omega)⟩
theorem RCX.upx {B a s n : Nat} {g g' : cg} (h : RCX B a s n g) (h1 : ∀ k j : Nat, B ≤ k → k < B + 42 → g' k j = g k j) (h2 : ∀ j : Nat, a ≤ j → j < a + 260 → g' 254 j = g 254 j) (h4 : ∀ j : Nat, s ≤ j → j < s + 480 → g' 254 j = g 254 j) (h3 : ∀ j : Nat, n ≤ j → j < n + 12 → g' 255 j = g 255 j) : RCX B a s n g' := ⟨h.1.up h1 h2 h3, h.2.upz h1 h2 h4⟩
theorem RM.up {g g' : cg} (h : RM g) (h0 : g' 0 9 = g 0 9) (h0' : g' 253 39 = g 253 39) (h1 : ∀ k j : Nat, 127 ≤ k → k < 253 → g' k j = g k j) (h2 : ∀ j : Nat, 744 ≤ j → j < 2976 → g' 254 j = g 254 j) (h3 : ∀ j : Nat, 12 ≤ j → j < 48 → g' 255 j = g 255 j) : RM g' := by
  obtain ⟨m, m1, m2, m3, m4⟩ := h
  exact ⟨m, m1, h0.trans m2, h0'.trans m3, fun i hi => (m4 i hi).upx (fun k j k1 k2 => h1 k j (by omega) (by omega)) (fun j j1 j2 => h2 j (by omega) (by omega)) (fun j j1 j2 => h2 j (by omega) (by omega)) (fun j j1 j2 => h3 j (by omega) (by omega))⟩
/-- but for the STATUS of both -/
theorem yR_st {a : Nat} {g g' : cg} (h : yR a g) (H : ∀ k j : Nat, ¬ (k = 0 ∧ j = 0) → ¬ (k = 253 ∧ j = 2) → g' k j = g k j) : yR a g' := by
  obtain ⟨h3, h4⟩ := h
  exact ⟨h3.upx (fun k j k1 k2 => H _ _ (by omega) (by omega)) (fun j _ _ => H _ _ (by omega) (by omega)) (fun j _ _ => H _ _ (by omega) (by omega)) (fun j _ _ => H _ _ (by omega) (by omega)), h4.up (H _ _ (by omega) (by omega)) (H _ _ (by omega) (by omega)) (fun k j k1 k2 => H _ _ (by omega) (by omega)) (fun j _ _ => H _ _ (by omega) (by omega)) (fun j _ _ => H _ _ (by omega) (by omega))⟩
/-- the numbers that a call is given -/
def darl (lf : dlf) : Nat → List Int → Prop
  | _, [] => True
  | i, a :: l => lf i = (0, a) ∧ darl lf (i + 1) l
theorem darl_of {lf : dlf} : ∀ {l : List Int} {i : Nat}, dag lf (carg i (l.map (fun z => ((0 : Nat), z)))) → darl lf i l
  | [], _, _ => trivial
  | a :: l, i, h => ⟨h (i, (0, a)) List.mem_cons_self, darl_of (fun q hq => h q (List.mem_cons_of_mem _ hq))⟩
/-- what is known of a call on both sides: before, between, behind -/
def PT (z : Nat) (c g g' : cg) : Prop := yR 0 c ∧ aInv ytyt ytyp c ∧ aInv ytyt ytyp g ∧ (∀ k : Nat, 253 ≤ k → k < 270 → g k = c k) ∧ (∀ k : Nat, k < 253 → g' k = g k) ∧ EQd (xzdf z) c g ∧ EQd (xzmf z) g g' ∧ (xtr z = true → PRE c g)
def TT (sv : Nat → Int32) (L z : Nat) : Prop := ∀ (c g g' : cg) (al : List Int) (r r' : Int) (n n' : Nat) (lf lf' : dlf), PT z c g g' → (xrf z = true → RF c) → xar z xPR = some al.length → (∀ a ∈ al, cI a) → lf 0 = (4, 0) → darl lf 1 al → zr sv L n z 0 lf [] c (g, some (0, r)) → lf' 0 = (4, 253) → darl lf' 1 al → zr sv L n' (z + 1) 0 lf' [] g (g', some (0, r')) → ((xtr z = true → 0 ≤ r') → yR 0 g') ∧ r = r'
def TF (sv : Nat → Int32) (L z : Nat) : Prop := ∀ (c g g' : cg) (al : List Int) (r r' : Int) (n n' : Nat) (lf lf' : dlf), PT z c g g' → RF c → xar z xPR = some al.length → (∀ a ∈ al, cI a) → lf 0 = (4, 0) → darl lf 1 al → zr sv L n z 0 lf [] c (g, some (0, r)) → lf' 0 = (4, 253) → darl lf' 1 al → zr sv L n' (z + 1) 0 lf' [] g (g', some (0, r')) → RF g'
theorem al1 {al : List Int} (h : some 1 = some al.length) : ∃ a, al = [a] := by
  match al, Option.some.inj h with
  | [a], _ => exact ⟨a, rfl⟩
theorem al0 {al : List Int} (h : some 0 = some al.length) : al = [] := by
  match al, Option.some.inj h with
  | [], _ => rfl
theorem al2 {al : List Int} (h : some 2 = some al.length) : ∃ a b, al = [a, b] := by
  match al, Option.some.inj h with
  | [a, b], _ => exact ⟨a, b, rfl⟩
theorem al3 {al : List Int} (h : some 3 = some al.length) : ∃ a b e, al = [a, b, e] := by
  match al, Option.some.inj h with
  | [a, b, e], _ => exact ⟨a, b, e, rfl⟩
theorem al4 {al : List Int} (h : some 4 = some al.length) : ∃ a b e f, al = [a, b, e, f] := by
  match al, Option.some.inj h with
  | [a, b, e, f], _ => exact ⟨a, b, e, f, rfl⟩
theorem al5 {al : List Int} (h : some 5 = some al.length) : ∃ a b c d e, al = [a, b, c, d, e] := by
  match al, Option.some.inj h with
  | [a, b, c, d, e], _ => exact ⟨a, b, c, d, e, rfl⟩
