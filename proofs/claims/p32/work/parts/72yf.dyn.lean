/-! what became of a court, on both sides: rates, TILL, OATHS, PURSES and the rest of the PERSONS -/
def RD (B a : Nat) (g : cg) : Prop := (g B 5 = g 254 (a + 3) ∧ g B 6 = g 254 (a + 4) ∧ g B 7 = g 254 (a + 5) ∧ g B 8 = g 254 (a + 6) ∧ g B 9 = g 254 (a + 2)) ∧ (∀ i : Nat, (i : Int) < g B 3 → i < 6 → (∀ j : Nat, j < 5 → g (B + 14 + 2 * i) (j + 1) = g 254 (a + 15 + 6 * i + j)) ∧ ∀ h : Nat, h < 8 → g (B + 15 + 2 * i) h = g 254 (a + 51 + 8 * i + h)) ∧ ∀ i : Nat, (i : Int) < g B 9 → i < 16 → ∀ j : Nat, j < 7 → g (B + 26 + i) j = g 254 (a + 99 + 8 * i + j)
/-- the same elsewhere -/
def SD (B a B' a' : Nat) (g g' : cg) : Prop := (∀ j : Nat, j = 3 ∨ (5 ≤ j ∧ j ≤ 9) → g' B' j = g B j) ∧ (∀ i : Nat, (i : Int) < g B 3 → i < 6 → (∀ j : Nat, j < 6 → g' (B' + 14 + 2 * i) j = g (B + 14 + 2 * i) j) ∧ ∀ h : Nat, h < 8 → g' (B' + 15 + 2 * i) h = g (B + 15 + 2 * i) h) ∧ (∀ i : Nat, (i : Int) < g B 9 → i < 16 → ∀ j : Nat, j < 7 → g' (B' + 26 + i) j = g (B + 26 + i) j) ∧ ∀ j : Nat, j < 260 → g' 254 (a' + j) = g 254 (a + j)
theorem RD.mv {B a B' a' : Nat} {g g' : cg} (h : RD B a g) (e : SD B a B' a' g g') : RD B' a' g' := by
  obtain ⟨⟨h1, h2, h3, h4, h5⟩, h6, h7⟩ := h
  obtain ⟨e1, e2, e3, e4⟩ := e
  have e4' : ∀ x y j : Nat, x = a' + j → y = a + j → j < 260 → g' 254 x = g 254 y := fun x y j p q hj => by rw [p, q]; exact e4 j hj
  refine ⟨⟨?_, ?_, ?_, ?_, ?_⟩, fun i i1 i2 => ⟨fun j hj => ?_, fun h hh => ?_⟩, fun i i1 i2 j hj => ?_⟩
  · rw [e1 5 (by omega), e4 3 (by omega)]; exact h1
  · rw [e1 6 (by omega), e4 4 (by omega)]; exact h2
  · rw [e1 7 (by omega), e4 5 (by omega)]; exact h3
  · rw [e1 8 (by omega), e4 6 (by omega)]; exact h4
  · rw [e1 9 (by omega), e4 2 (by omega)]; exact h5
  · rw [e1 3 (by omega)] at i1
    rw [(e2 i i1 i2).1 (j + 1) (by omega), e4' (a' + 15 + 6 * i + j) (a + 15 + 6 * i + j) (15 + 6 * i + j) (by omega) (by omega) (by omega)]
    exact (h6 i i1 i2).1 j hj
  · rw [e1 3 (by omega)] at i1
    rw [(e2 i i1 i2).2 h hh, e4' (a' + 51 + 8 * i + h) (a + 51 + 8 * i + h) (51 + 8 * i + h) (by omega) (by omega) (by omega)]
    exact (h6 i i1 i2).2 h hh
  · rw [e1 9 (by omega)] at i1
    rw [e3 i i1 i2 j hj, e4' (a' + 99 + 8 * i + j) (a + 99 + 8 * i + j) (99 + 8 * i + j) (by omega) (by omega) (by omega)]
    exact h7 i i1 i2 j hj
theorem RD.up {B a : Nat} {g g' : cg} (h : RD B a g) (h1 : ∀ k j : Nat, B ≤ k → k < B + 42 → g' k j = g k j) (h2 : ∀ j : Nat, a ≤ j → j < a + 260 → g' 254 j = g 254 j) : RD B a g' :=
  h.mv ⟨fun j hj => h1 B j (by omega) (by omega), fun i _ hi => ⟨fun j _ => h1 (B + 14 + 2 * i) j (by omega) (by omega), fun h _ => h1 (B + 15 + 2 * i) h (by omega) (by omega)⟩, fun i _ hi j _ => h1 (B + 26 + i) j (by omega) (by omega), fun j hj => h2 (a + j) (by omega) (by omega)⟩
theorem CPD.sd {D S a a' : Nat} {g g' g2 : cg} (h : CPD D S g g') (hD : ∀ k j : Nat, D ≤ k → k < D + 42 → g2 k j = g' k j) (h1 : ∀ j : Nat, j < 260 → g2 254 (a' + j) = g 254 (a + j)) : SD S a D a' g g2 := by
  obtain ⟨c1, c2, ⟨c3, c4⟩, c5, c6, c7, c8⟩ := h
  refine ⟨fun j hj => (hD D j (by omega) (by omega)).trans (c2 j (by omega)), fun i i1 i2 => ⟨fun j hj => (hD _ j (by omega) (by omega)).trans ((c5 i i1 i2).1 j hj), fun h hh => (hD _ h (by omega) (by omega)).trans ((c5 i i1 i2).2 h hh)⟩, fun i i1 i2 j hj => (hD _ j (by omega) (by omega)).trans (c6 i i1 i2 j (by omega)), h1⟩
/-- the drafts' -/
theorem DR.rd {c d : cg} {np nq : Nat} (h : DR c d np nq) : (c 45 5 = d 254 2979 ∧ c 45 6 = d 254 2980 ∧ c 45 7 = d 254 2981 ∧ c 45 8 = d 254 2982 ∧ c 45 9 = d 254 2978) ∧ (∀ i : Nat, i < nq → (∀ j : Nat, j < 5 → c (59 + 2 * i) (j + 1) = d 254 (2991 + 6 * i + j)) ∧ ∀ h : Nat, h < 8 → c (60 + 2 * i) h = d 254 (3027 + 8 * i + h)) ∧ c 45 9 = 0 := by
  obtain ⟨⟨a1, a2⟩, a3, a4, a5, a6, a7, a8, ⟨e1, e2, e3, e4, e5, e6, e7⟩, a10⟩ := h
  refine ⟨⟨e1, e2, e3, by rw [e4, e5], by rw [e6, e7]⟩, fun i hi => ?_, e6⟩
  obtain ⟨p1, p2, p3, p4, p5, p6⟩ := a7 i hi
  refine ⟨fun j hj => ?_, p6⟩
  rcases (show j = 0 ∨ j = 1 ∨ j = 2 ∨ j = 3 ∨ j = 4 from by omega) with e | e | e | e | e <;> subst e
  · exact p1
  · exact p2
  · exact p3
  · exact p4
  · exact p5
