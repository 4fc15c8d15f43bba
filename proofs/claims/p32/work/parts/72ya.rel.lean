/-! what both programs have in common -/
def RF (g : cg) : Prop := g 88 10 = g 253 16 ∧ g 88 11 = g 253 17
/-- what else both courts have in common -/
def RX (B a : Nat) (g : cg) : Prop := g B 7 = g 254 (a + 5)
/-- a court: the class's object B, the reference's place a, names from n -/
def RC (B a n : Nat) (g : cg) : Prop := ∃ np nq : Nat, (np ≤ 5 ∧ nq ≤ 6) ∧ (g B 0 = (np : Int) ∧ g 254 a = (np : Int) ∧ g B 3 = (nq : Int) ∧ g 254 (a + 1) = (nq : Int)) ∧ (∀ i : Nat, i < np → NR (g (B + 2) i) (g 255 (n + i))) ∧ (∀ i : Nat, i < nq → NR (g (B + 14 + 2 * i) 0) (g 255 (n + 5 + i))) ∧ (∀ i : Nat, i < np → g (B + 1) i = g 254 (a + 10 + i)) ∧ RX B a g
def RM (g : cg) : Prop := ∃ m : Nat, m ≤ 3 ∧ g 0 9 = (m : Int) ∧ g 253 39 = (m : Int) ∧ ∀ i : Nat, i < m → RC (127 + 42 * i) (744 * (i + 1)) (12 * (i + 1)) g
def yR (a : Nat) (g : cg) : Prop := RC 3 a 0 g ∧ RM g
def EQd (l : List (Nat × Int × Int)) (g g' : cg) : Prop := ∀ q ∈ l, ∀ j : Nat, q.2.1 ≤ (j : Int) → (j : Int) ≤ q.2.2 → g' q.1 j = g q.1 j
theorem EQd.at {l : List (Nat × Int × Int)} {g g' : cg} (h : EQd l g g') {k : Nat} {lo hi : Int} (hm : (k, lo, hi) ∈ l) (j : Nat) (h1 : lo ≤ (j : Int)) (h2 : (j : Int) ≤ hi) : g' k j = g k j := h _ hm j h1 h2
theorem RF.fr {g g' : cg} (h : RF g) (e1 : g' 88 10 = g 88 10) (e2 : g' 88 11 = g 88 11) (e3 : g' 253 16 = g 253 16) (e4 : g' 253 17 = g 253 17) : RF g' := ⟨by rw [e1, e3]; exact h.1, by rw [e2, e4]; exact h.2⟩
/-- two courts that hold the same, by their cells -/
def SC (B a n B' a' n' : Nat) (g g' : cg) : Prop := (g' B' 0 = g B 0 ∧ g' B' 3 = g B 3) ∧ (∀ i : Nat, i < 5 → g' (B' + 1) i = g (B + 1) i) ∧ (∀ i : Nat, i < 5 → g' (B' + 2) i = g (B + 2) i) ∧ (∀ i : Nat, (i : Int) < g B 3 → i < 6 → g' (B' + 14 + 2 * i) 0 = g (B + 14 + 2 * i) 0) ∧ (g' 254 a' = g 254 a ∧ g' 254 (a' + 1) = g 254 (a + 1)) ∧ (∀ i : Nat, i < 5 → g' 254 (a' + 10 + i) = g 254 (a + 10 + i)) ∧ (∀ i : Nat, i < 12 → g' 255 (n' + i) = g 255 (n + i)) ∧ g' B' 7 = g B 7 ∧ g' 254 (a' + 5) = g 254 (a + 5)
theorem RC.mv {B a n B' a' n' : Nat} {g g' : cg} (h : RC B a n g) (e : SC B a n B' a' n' g g') : RC B' a' n' g' := by
  obtain ⟨np, nq, ⟨h5, h6⟩, ⟨a1, a2, a3, a4⟩, a5, a6, a7, a8⟩ := h
  obtain ⟨⟨e1, e2⟩, e3, e4, e5, ⟨e6, e7⟩, e8, e9, e10, e11⟩ := e
  refine ⟨np, nq, ⟨h5, h6⟩, ⟨e1.trans a1, e6.trans a2, e2.trans a3, e7.trans a4⟩, fun i hi => ?_, fun i hi => ?_, fun i hi => ?_, e10.trans (Eq.trans a8 e11.symm)⟩
  · rw [e4 i (by omega), e9 i (by omega)]; exact a5 i hi
  · rw [e5 i (by omega) (by omega), show n' + 5 + i = n' + (5 + i) by omega, e9 (5 + i) (by omega), show n + (5 + i) = n + 5 + i by omega]; exact a6 i hi
  · rw [e3 i (by omega), e8 i (by omega)]; exact a7 i hi
def cdep (B a n : Nat) : List (Nat × Int × Int) := [(B, 7, 7), (254, ((a + 5 : Nat) : Int), ((a + 5 : Nat) : Int)), (B, 0, 0), (B, 3, 3), (B + 1, 0, 4), (B + 2, 0, 4), (254, (a : Int), ((a + 1 : Nat) : Int)), (254, ((a + 10 : Nat) : Int), ((a + 14 : Nat) : Int)), (255, (n : Int), ((n + 11 : Nat) : Int))] ++ (List.range 6).map (fun i => (B + 14 + 2 * i, (0 : Int), (0 : Int)))
def ydep0 (a : Nat) : List (Nat × Int × Int) := [(0, 9, 9), (253, 39, 39)] ++ (cdep 3 a 0 ++ (List.range 3).flatMap (fun i => cdep (127 + 42 * i) (744 * (i + 1)) (12 * (i + 1))))
def ydep (a : Nat) : List (Nat × Int × Int) := match Nat.beq a 9999 with
  | true => [(88, 10, 11), (253, 16, 17)]
  | false => ydep0 a
theorem cdep_sc {B a n : Nat} {g g' : cg} (h : EQd (cdep B a n) g g') : SC B a n B a n g g' := by
  refine ⟨⟨h.at (k := B) (lo := 0) (hi := 0) (by simp [cdep]) 0 (by decide) (by decide), h.at (k := B) (lo := 3) (hi := 3) (by simp [cdep]) 3 (by decide) (by decide)⟩, fun i hi => h.at (k := B + 1) (lo := 0) (hi := 4) (by simp [cdep]) i (by omega) (by omega), fun i hi => h.at (k := B + 2) (lo := 0) (hi := 4) (by simp [cdep]) i (by omega) (by omega), fun i _ hi => h.at (k := B + 14 + 2 * i) (lo := 0) (hi := 0) (List.mem_append.mpr (Or.inr (List.mem_map.mpr ⟨i, List.mem_range.mpr hi, rfl⟩))) 0 (by decide) (by decide), ⟨h.at (k := 254) (lo := (a : Int)) (hi := ((a + 1 : Nat) : Int)) (by simp [cdep]) a (by omega) (by omega), h.at (k := 254) (lo := (a : Int)) (hi := ((a + 1 : Nat) : Int)) (by simp [cdep]) (a + 1) (by omega) (by omega)⟩, fun i hi => h.at (k := 254) (lo := ((a + 10 : Nat) : Int)) (hi := ((a + 14 : Nat) : Int)) (by simp [cdep]) (a + 10 + i) (by omega) (by omega), fun i hi => h.at (k := 255) (lo := (n : Int)) (hi := ((n + 11 : Nat) : Int)) (by simp [cdep]) (n + i) (by omega) (by omega), h.at (k := B) (lo := 7) (hi := 7) (by simp [cdep]) 7 (by decide) (by decide), h.at (k := 254) (lo := ((a + 5 : Nat) : Int)) (hi := ((a + 5 : Nat) : Int)) (by simp [cdep]) (a + 5) (by omega) (by omega)⟩
theorem yR_fr {a : Nat} {g g' : cg} (h : yR a g) (e : EQd (ydep0 a) g g') : yR a g' := by
  obtain ⟨h3, m, m1, m2, m3, m4⟩ := h
  have eb : ∀ q ∈ ([(0, 9, 9), (253, 39, 39)] : List (Nat × Int × Int)), q ∈ ydep0 a := fun q hq => List.mem_append.mpr (Or.inl hq)
  have A : ∀ (k : Nat) (lo hi : Int), (k, lo, hi) ∈ ([(0, 9, 9), (253, 39, 39)] : List (Nat × Int × Int)) → ∀ j : Nat, lo ≤ (j : Int) → (j : Int) ≤ hi → g' k j = g k j := fun k lo hi hm j j1 j2 => e _ (eb _ hm) j j1 j2
  refine ⟨?_, m, m1, (A 0 9 9 (by decide) 9 (by decide) (by decide)).trans m2, (A 253 39 39 (by decide) 39 (by decide) (by decide)).trans m3, fun i hi => ?_⟩
  · exact h3.mv (cdep_sc (fun q hq => e q (List.mem_append.mpr (Or.inr (List.mem_append.mpr (Or.inl hq))))))
  · exact (m4 i hi).mv (cdep_sc (fun q hq => e q (List.mem_append.mpr (Or.inr (List.mem_append.mpr (Or.inr (List.mem_flatMap.mpr ⟨i, List.mem_range.mpr (by omega), hq⟩)))))))
theorem yR_mv {a a' : Nat} {g : cg} (h : yR a g) (e : ∀ j : Nat, j < 260 → g 254 (a' + j) = g 254 (a + j)) : yR a' g := by
  obtain ⟨h3, h4⟩ := h
  refine ⟨h3.mv ⟨⟨rfl, rfl⟩, fun _ _ => rfl, fun _ _ => rfl, fun _ _ _ => rfl, ⟨e 0 (by decide), e 1 (by decide)⟩, fun i hi => ?_, fun _ _ => rfl, rfl, e 5 (by decide)⟩, h4⟩
  rw [show a' + 10 + i = a' + (10 + i) by omega, e (10 + i) (by omega), show a + (10 + i) = a + 10 + i by omega]
/-- at 9999: the FAULT -/
def yRG (a : Nat) (g : cg) : Prop := match Nat.beq a 9999 with
  | true => RF g
  | false => yR a g
theorem yRG_fr {a : Nat} {g g' : cg} (h : yRG a g) (e : EQd (ydep a) g g') : yRG a g' := by
  unfold yRG ydep at *
  cases hb : Nat.beq a 9999 with
  | true =>
    rw [hb] at h e
    exact RF.fr h (e.at (k := 88) (lo := 10) (hi := 11) List.mem_cons_self 10 (by decide) (by decide)) (e.at (k := 88) (lo := 10) (hi := 11) List.mem_cons_self 11 (by decide) (by decide)) (e.at (k := 253) (lo := 16) (hi := 17) (List.mem_cons_of_mem _ List.mem_cons_self) 16 (by decide) (by decide)) (e.at (k := 253) (lo := 16) (hi := 17) (List.mem_cons_of_mem _ List.mem_cons_self) 17 (by decide) (by decide))
  | false =>
    rw [hb] at h e
    exact yR_fr h e
theorem yRG_mv {a a' : Nat} {g : cg} (ha : a < 9000) (ha' : a' < 9000) (h : yRG a g) (e : ∀ j : Nat, j < 260 → g 254 (a' + j) = g 254 (a + j)) : yRG a' g := by
  unfold yRG at *
  have h1 : ∀ x : Nat, x < 9000 → Nat.beq x 9999 = false := fun x hx => by
    cases hb : Nat.beq x 9999 with
    | false => rfl
    | true => have := xeqb hb; omega
  rw [h1 a ha] at h
  rw [h1 a' ha']
  exact yR_mv h e
/-- a court stays, where its cells stay -/
theorem RC.up {B a n : Nat} {g g' : cg} (h : RC B a n g) (h1 : ∀ k j : Nat, B ≤ k → k < B + 42 → g' k j = g k j) (h2 : ∀ j : Nat, a ≤ j → j < a + 15 → g' 254 j = g 254 j) (h3 : ∀ j : Nat, n ≤ j → j < n + 12 → g' 255 j = g 255 j) : RC B a n g' :=
  h.mv ⟨⟨h1 B 0 (by omega) (by omega), h1 B 3 (by omega) (by omega)⟩, fun i hi => h1 (B + 1) i (by omega) (by omega), fun i hi => h1 (B + 2) i (by omega) (by omega), fun i _ hi => h1 (B + 14 + 2 * i) 0 (by omega) (by omega), ⟨h2 a (by omega) (by omega), h2 (a + 1) (by omega) (by omega)⟩, fun i hi => h2 (a + 10 + i) (by omega) (by omega), fun i hi => h3 (n + i) (by omega) (by omega), h1 B 7 (by omega) (by omega), h2 (a + 5) (by omega) (by omega)⟩
theorem RM.up {g g' : cg} (h : RM g) (h0 : g' 0 9 = g 0 9) (h0' : g' 253 39 = g 253 39) (h1 : ∀ k j : Nat, 127 ≤ k → k < 253 → g' k j = g k j) (h2 : ∀ j : Nat, 744 ≤ j → j < 2976 → g' 254 j = g 254 j) (h3 : ∀ j : Nat, 12 ≤ j → j < 48 → g' 255 j = g 255 j) : RM g' := by
  obtain ⟨m, m1, m2, m3, m4⟩ := h
  exact ⟨m, m1, h0.trans m2, h0'.trans m3, fun i hi => (m4 i hi).up (fun k j k1 k2 => h1 k j (by omega) (by omega)) (fun j j1 j2 => h2 j (by omega) (by omega)) (fun j j1 j2 => h3 j (by omega) (by omega))⟩
/-- but for the STATUS of both -/
theorem yR_st {a : Nat} {g g' : cg} (h : yR a g) (H : ∀ k j : Nat, ¬ (k = 0 ∧ j = 0) → ¬ (k = 253 ∧ j = 2) → g' k j = g k j) : yR a g' := by
  obtain ⟨h3, h4⟩ := h
  exact ⟨h3.up (fun k j k1 k2 => H _ _ (by omega) (by omega)) (fun j _ _ => H _ _ (by omega) (by omega)) (fun j _ _ => H _ _ (by omega) (by omega)), h4.up (H _ _ (by omega) (by omega)) (H _ _ (by omega) (by omega)) (fun k j k1 k2 => H _ _ (by omega) (by omega)) (fun j _ _ => H _ _ (by omega) (by omega)) (fun j _ _ => H _ _ (by omega) (by omega))⟩
/-- the numbers that a call is given -/
def darl (lf : dlf) : Nat → List Int → Prop
  | _, [] => True
  | i, a :: l => lf i = (0, a) ∧ darl lf (i + 1) l
theorem darl_of {lf : dlf} : ∀ {l : List Int} {i : Nat}, dag lf (carg i (l.map (fun z => ((0 : Nat), z)))) → darl lf i l
  | [], _, _ => trivial
  | a :: l, i, h => ⟨h (i, (0, a)) List.mem_cons_self, darl_of (fun q hq => h q (List.mem_cons_of_mem _ hq))⟩
/-- what is known of a call on both sides: before, between, behind -/
def PT (z : Nat) (c g g' : cg) : Prop := yR 0 c ∧ aInv ytyt ytyp c ∧ aInv ytyt ytyp g ∧ (∀ k : Nat, 253 ≤ k → k < 270 → g k = c k) ∧ (∀ k : Nat, k < 253 → g' k = g k) ∧ EQd (xzdf z) c g ∧ EQd (xzmf z) g g' ∧ (xtr z = true → PRE c g)
def TT (sv : Nat → Int32) (L z : Nat) : Prop := ∀ (c g g' : cg) (al : List Int) (r r' : Int) (n n' : Nat) (lf lf' : dlf), PT z c g g' → (xrf z = true → RF c) → xar z xPR = some al.length → (∀ a ∈ al, cI a) → lf 0 = (4, 0) → darl lf 1 al → zr sv L n z 0 lf [] c (g, some (0, r)) → lf' 0 = (4, 253) → darl lf' 1 al → zr sv L n' (z + 1) 0 lf' [] g (g', some (0, r')) → ((xtr z = true → 0 ≤ r') → yR 0 g') ∧ r = r'
def TF (sv : Nat → Int32) (L z : Nat) : Prop := ∀ (c g g' : cg) (al : List Int) (r r' : Int) (n n' : Nat) (lf lf' : dlf), PT z c g g' → RF c → xar z xPR = some al.length → (∀ a ∈ al, cI a) → lf 0 = (4, 0) → darl lf 1 al → zr sv L n z 0 lf [] c (g, some (0, r)) → lf' 0 = (4, 253) → darl lf' 1 al → zr sv L n' (z + 1) 0 lf' [] g (g', some (0, r')) → RF g'
theorem al1 {al : List Int} (h : some 1 = some al.length) : ∃ a, al = [a] := by
  match al, Option.some.inj h with
  | [a], _ => exact ⟨a, rfl⟩
theorem al0 {al : List Int} (h : some 0 = some al.length) : al = [] := by
  match al, Option.some.inj h with
  | [], _ => rfl
theorem al5 {al : List Int} (h : some 5 = some al.length) : ∃ a b c d e, al = [a, b, c, d, e] := by
  match al, Option.some.inj h with
  | [a, b, c, d, e], _ => exact ⟨a, b, c, d, e, rfl⟩
