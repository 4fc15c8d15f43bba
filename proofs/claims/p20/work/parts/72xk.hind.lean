/-! the FEE and WHY by what was heard: the class -/
theorem oag {c : cg} {W P Q T : Nat} (N : Nat) : (cnt (oth c W P T) N : Int) - (cnt (alkx c W P Q T) N : Int) = (cnt (gns c W P Q T) N : Int) := by
  have h := cnt_split (f := oth c W P T) (e := fun k => decide (ohq c k = Q)) N
  rw [cnt_congr (f := fun i => oth c W P T i && decide (ohq c i = Q)) (f' := alkx c W P Q T) N (fun i _ => Bool.and_assoc _ _ _), cnt_congr (f := fun i => oth c W P T i && !decide (ohq c i = Q)) (f' := gns c W P Q T) N (fun i _ => by
    unfold oth gns
    rw [decide_not (p := ohq c i = Q)]
    cases isof c P T i <;> cases decide (ohw c i ≠ W) <;> cases decide (ohq c i = Q) <;> rfl)] at h
  omega
section Hind
variable {sv : Nat → Int32} {L : Nat} {n : Nat} {lf : dlf} {c c' : cg} {o : cg × Option cv} {N W P Q T nq : Nat}
theorem echo_i (hA : AS 92 c W P N c') (hV : OHV c N) (hQ : Q ≤ 4) (hT : T ≤ 7) (htw : c (17 + 2 * W) 4 ≠ (W : Int)) : csgn (lan (lsr (c' 92 8) ((Q : Int) + 5 * (T : Int))) 1 - 0) ≠ 0 ↔ c (17 + 2 * W) 4 ≠ -1 ∧ 0 < cnt (bkd c P Q T (c (17 + 2 * W) 4)) N := by
  obtain ⟨-, -, -, -, -, ⟨m, d1, d2, d3⟩, -⟩ := hA
  rw [d1, show ((Q : Int) + 5 * (T : Int)) = ((Q + 5 * T : Nat) : Int) by omega, lbit (lt40 d2) (by omega), d3 Q (by omega) T (by omega), cnt_pos, cnt_pos]
  constructor
  · intro ⟨i, i1, i2⟩
    obtain ⟨x1, x2, x3⟩ := ech_i.mp i2
    exact ⟨by omega, i, i1, bkd_i.mpr ⟨⟨x1.1, x1.2.1, x1.2.2, x2.2⟩, Or.inr x3⟩⟩
  · intro ⟨hn, i, i1, i2⟩
    obtain ⟨x1, x2⟩ := bkd_i.mp i2
    have x3 : (ohw c i : Int) = c (17 + 2 * W) 4 := x2.resolve_left hn
    exact ⟨i, i1, ech_i.mpr ⟨⟨x1.1, x1.2.1, x1.2.2.1⟩, ⟨fun e => htw (by rw [← x3, e]), x1.2.2.2⟩, x3⟩⟩
theorem fees_0 (h : trh c P T = (Q : Int) ∨ c (17 + 2 * W) 3 = 1) : fees c N W P Q T = 0 := by unfold fees; rw [if_pos h]
theorem fees_1 (h : trh c P T ≠ (Q : Int)) (h' : c (17 + 2 * W) 3 ≠ 1) (he : ¬ (c (17 + 2 * W) 4 ≠ -1 ∧ 0 < cnt (bkd c P Q T (c (17 + 2 * W) 4)) N)) : fees c N W P Q T = rate c N W P Q T := by unfold fees; rw [if_neg (fun q => q.elim h h'), if_neg he]
theorem fees_2 (h : trh c P T ≠ (Q : Int)) (h' : c (17 + 2 * W) 3 ≠ 1) (he : c (17 + 2 * W) 4 ≠ -1 ∧ 0 < cnt (bkd c P Q T (c (17 + 2 * W) 4)) N) : fees c N W P Q T = qdi (w32 (rate c N W P Q T + 1)) 2 := by unfold fees; rw [if_neg (fun q => q.elim h h'), if_pos he]
/-- what is known of the WITNESS -/
def WOK (c : cg) (W : Nat) : Prop := (c (17 + 2 * W) 3 = 0 ∨ c (17 + 2 * W) 3 = 1) ∧ c (17 + 2 * W) 4 ≠ (W : Int) ∧ 0 ≤ c (17 + 2 * W) 1
theorem price_ok (hA : ASD c c' N W P) (hV : OHV c N) (hw : WOK c W) (hW : W ≤ 5) (hP : P ≤ 5) (hQ : Q ≤ 4) (hT : T ≤ 7) (hN16 : N ≤ 16) (h : zr sv L n 96 0 lf [] c' o) (h0 : lf 0 = (4, 92)) (h1 : lf 1 = (0, (Q : Int))) (h2 : lf 2 = (0, (T : Int))) : o = (c', some (0, fees c N W P Q T)) := by
  have hE := echo_i hA.1 hV hQ hT hw.2.1
  obtain ⟨⟨a1, ⟨a2, a3⟩, -, a5, a6, -, -⟩, -⟩ := hA
  have lx := cnt_le (f := oth c W P T) N
  have ly := cnt_le (f := alkx c W P Q T) N
  have F : ∀ i j : Nat, i < 92 → c' i j = c i j := fun i j hi => a1 i j (by omega) (by omega) (by omega)
  have hp := t_price_92 (x := cnt (oth c W P T) N) (y := cnt (alkx c W P Q T) N) (bi := c (17 + 2 * W) 3) (v := trh c P T) hW hP hQ hT (by omega) (by omega) a2 a3 (F _ _ (by omega)) (a5 T (by omega)) (a6 Q (by omega) T (by omega)) (F _ _ (by omega)) h h0 h1 h2
  rw [oag, F 3 5 (by decide), F 3 6 (by decide)] at hp
  rcases hp with ⟨z, e⟩ | ⟨⟨z1, z2, z3⟩, e⟩ | ⟨⟨z1, z2, z3⟩, e⟩
  · rw [e, fees_0 (by rcases hw.1 with q | q <;> omega)]
  · rw [e, fees_1 z2 (by omega) (fun q => hE.mpr q z3)]; rfl
  · rw [e, fees_2 z2 (by omega) (hE.mp z3)]; rfl
theorem hind_ok (hA : ASD c c' N W P) (hV : OHV c N) (hw : WOK c W) (hW : W ≤ 5) (hP : P ≤ 5) (hQ : Q ≤ 4) (hT : T ≤ 7) (hN16 : N ≤ 16) (hN : c 3 9 = (N : Int)) (h : zr sv L n 94 0 lf [] c' o) (h0 : lf 0 = (4, 92)) (h1 : lf 1 = (0, (Q : Int))) (h2 : lf 2 = (0, (T : Int))) : o = (c', some (0, whys c N W P Q T)) := by
  have hE := echo_i hA.1 hV hQ hT hw.2.1
  obtain ⟨⟨a1, ⟨a2, a3⟩, ⟨m, b1, b2, b3⟩, a5, a6, -, a8⟩, a9⟩ := hA
  have lx := cnt_le (f := oth c W P T) N
  have ly := cnt_le (f := alkx c W P Q T) N
  have F : ∀ i j : Nat, i < 92 → c' i j = c i j := fun i j hi => a1 i j (by omega) (by omega) (by omega)
  have hp := t_hind_92 (x := cnt (oth c W P T) N) (y := cnt (alkx c W P Q T) N) (bi := c (17 + 2 * W) 3) (v := trh c P T) (pu := c (17 + 2 * W) 1) hW hP hQ hT hN16 (by omega) (by omega) (by rw [F _ _ (by decide)]; exact hN) a2 a3 (F _ _ (by omega)) (a5 T (by omega)) (a6 Q (by omega) T (by omega)) (F _ _ (by omega)) (F _ _ (by omega)) h h0 h1 h2
  have p8 : (2 : Nat) ^ 8 ≤ 2 ^ 30 := by decide
  have hb := bbit (a := m) (s := T) (Nat.lt_of_lt_of_le b2 p8) (by omega)
  rw [oag, F 3 5 (by decide), F 3 6 (by decide), b1, hb] at hp
  have hsp : ((m.testBit T).toNat : Int) = 0 → ¬ 0 < cnt (spk c W P T) N := fun e q => by
    rw [← b3 T (by omega)] at q
    rw [q] at e
    cases e
  have hsp' : ((m.testBit T).toNat : Int) ≠ 0 → 0 < cnt (spk c W P T) N := fun e => by
    rw [← b3 T (by omega)]
    cases hq : m.testBit T with
    | true => rfl
    | false => rw [hq] at e; exact absurd rfl e
  have hdb : dbk c P N ↔ 0 < cnt (dbh c P N) 8 := by
    rw [cnt_pos]
    constructor
    · intro ⟨X, i, j, i1, j1, i2, j2, hn⟩
      obtain ⟨-, -, -, -, v5⟩ := hV i i1
      have x := isof_i.mp i2
      exact ⟨X, by omega, (dbh_i hV).mpr ⟨i, i1, j, j1, i2, j2, hn⟩⟩
    · intro ⟨X, hX, hx⟩
      obtain ⟨i, i1, j, j1, i2, j2, hn⟩ := (dbh_i hV).mp hx
      exact ⟨X, i, j, i1, j1, i2, j2, hn⟩
  have hd0 : c' 92 4 = 0 → cnt (dbh c P N) 8 = 0 := fun e => by
    rcases a8 with ⟨x, y⟩ | ⟨x, y⟩
    · rw [hdb] at y; omega
    · omega
  have hd1 : c' 92 4 ≠ 0 → cnt (dbh c P N) 8 ≠ 0 := fun e => by
    rcases a8 with ⟨x, y⟩ | ⟨x, y⟩
    · exact absurd x e
    · rw [hdb] at y; omega
  have hl0 : c' 92 5 = 0 → ¬ 0 < cnt (lfr c W P) N := fun e => by
    rcases a9 with ⟨x, y⟩ | ⟨x, y⟩
    · exact y
    · omega
  have hl1 : c' 92 5 ≠ 0 → 0 < cnt (lfr c W P) N := fun e => by
    rcases a9 with ⟨x, y⟩ | ⟨x, y⟩
    · exact absurd x e
    · exact y
  have hpu := hw.2.2
  have i1 : c (17 + 2 * W) 3 ≠ 0 → fees c N W P Q T = 0 := fun e => fees_0 (Or.inr (hw.1.resolve_left e))
  have i2 : trh c P T ≠ (Q : Int) → c (17 + 2 * W) 3 = 0 → csgn (lan (lsr (c' 92 8) ((Q : Int) + 5 * (T : Int))) 1 - 0) = 0 → fees c N W P Q T = w32 (c 3 5 + w32 (c 3 6 * (cnt (gns c W P Q T) N : Int))) := fun e1 e2 e3 => fees_1 e1 (by omega) (fun q => hE.mpr q e3)
  have i3 : trh c P T ≠ (Q : Int) → c (17 + 2 * W) 3 = 0 → csgn (lan (lsr (c' 92 8) ((Q : Int) + 5 * (T : Int))) 1 - 0) ≠ 0 → fees c N W P Q T = qdi (w32 (w32 (c 3 5 + w32 (c 3 6 * (cnt (gns c W P Q T) N : Int))) + 1)) 2 := fun e1 e2 e3 => fees_2 e1 (by omega) (hE.mp e3)
  have hz0 : (N : Int) < 16 → ((m.testBit T).toNat : Int) = 0 → trh c P T ≠ (Q : Int) → (trh c P T = -1 ∨ c' 92 4 ≠ 0) → c' 92 5 = 0 → fees c N W P Q T ≤ c (17 + 2 * W) 1 → whys c N W P Q T = 0 := by
    intro x1 x2 x3 x4 x5 x6
    unfold whys
    rw [if_neg (by omega), if_neg (hsp x2), if_neg (fun q => x4.elim q.2.1 (fun y => hd1 y q.2.2)), if_neg (fun q => hl0 x5 q.2), if_neg (by omega)]
  have hz5 : (N : Int) < 16 → ((m.testBit T).toNat : Int) = 0 → trh c P T ≠ (Q : Int) → (trh c P T = -1 ∨ c' 92 4 ≠ 0) → c' 92 5 = 0 → c (17 + 2 * W) 1 < fees c N W P Q T → whys c N W P Q T = 5 := by
    intro x1 x2 x3 x4 x5 x6
    unfold whys
    rw [if_neg (by omega), if_neg (hsp x2), if_neg (fun q => x4.elim q.2.1 (fun y => hd1 y q.2.2)), if_neg (fun q => hl0 x5 q.2), if_pos (by omega)]
  have hz4 : (N : Int) < 16 → ((m.testBit T).toNat : Int) = 0 → trh c P T ≠ (Q : Int) → (trh c P T = -1 ∨ c' 92 4 ≠ 0) → c' 92 5 ≠ 0 → whys c N W P Q T = 4 := by
    intro x1 x2 x3 x4 x5
    unfold whys
    rw [if_neg (by omega), if_neg (hsp x2), if_neg (fun q => x4.elim q.2.1 (fun y => hd1 y q.2.2)), if_pos ⟨x3, hl1 x5⟩]
  rcases hp with ⟨z, e⟩ | ⟨z, e⟩ | ⟨z, e⟩ | ⟨⟨z1, z2, z3, z4, z5⟩, e⟩ | ⟨⟨z1, z2⟩, e⟩ | ⟨z, e⟩
  · rw [e]
    rcases z with ⟨z1, z2, z3, z4, z5, z6, z7⟩ | ⟨z1, z2, z3, z4, z5, z6, z7, z8⟩ | ⟨z1, z2, z3, z4, z5, z6, z7, z8⟩ | ⟨z1, z2, z3, z4, z4', z5, z6, z7⟩ | ⟨z1, z2, z3, z4, z4', z5, z6, z7, z8⟩ | ⟨z1, z2, z3, z4, z4', z5, z6, z7, z8⟩ | ⟨z1, z2, z3⟩
    · rw [hz0 z1 z2 z3 (Or.inl z4) z5 (by rw [i1 z6]; exact z7)]
    · rw [hz0 z1 z2 z3 (Or.inl z4) z5 (by rw [i2 z3 z6 z7]; exact z8)]
    · rw [hz0 z1 z2 z3 (Or.inl z4) z5 (by rw [i3 z3 z6 z7]; exact z8)]
    · rw [hz0 z1 z2 z3 (Or.inr z4') z5 (by rw [i1 z6]; exact z7)]
    · rw [hz0 z1 z2 z3 (Or.inr z4') z5 (by rw [i2 z3 z6 z7]; exact z8)]
    · rw [hz0 z1 z2 z3 (Or.inr z4') z5 (by rw [i3 z3 z6 z7]; exact z8)]
    · have hf : fees c N W P Q T = 0 := fees_0 (Or.inl z3)
      unfold whys
      rw [if_neg (by omega), if_neg (hsp z2), if_neg (fun q => q.1 z3), if_neg (fun q => q.1 z3), if_neg (by omega)]
  · rw [e]
    rcases z with ⟨z1, z2, z3, z4, z5, z6, z7⟩ | ⟨z1, z2, z3, z4, z5, z6, z7, z8⟩ | ⟨z1, z2, z3, z4, z5, z6, z7, z8⟩ | ⟨z1, z2, z3, z4, z4', z5, z6, z7⟩ | ⟨z1, z2, z3, z4, z4', z5, z6, z7, z8⟩ | ⟨z1, z2, z3, z4, z4', z5, z6, z7, z8⟩
    · omega
    · rw [hz5 z1 z2 z3 (Or.inl z4) z5 (by rw [i2 z3 z6 z7]; exact z8)]
    · rw [hz5 z1 z2 z3 (Or.inl z4) z5 (by rw [i3 z3 z6 z7]; exact z8)]
    · omega
    · rw [hz5 z1 z2 z3 (Or.inr z4') z5 (by rw [i2 z3 z6 z7]; exact z8)]
    · rw [hz5 z1 z2 z3 (Or.inr z4') z5 (by rw [i3 z3 z6 z7]; exact z8)]
  · rw [e]
    rcases z with ⟨z1, z2, z3, z4, z5⟩ | ⟨z1, z2, z3, z4, z4', z5⟩
    · rw [hz4 z1 z2 z3 (Or.inl z4) z5]
    · rw [hz4 z1 z2 z3 (Or.inr z4') z5]
  · rw [e]
    unfold whys
    rw [if_neg (by omega), if_neg (hsp z2), if_pos ⟨z3, z4, hd0 z5⟩]
  · rw [e]
    unfold whys
    rw [if_neg (by omega), if_pos (hsp' z2)]
  · rw [e]
    unfold whys
    rw [if_pos (by omega)]
end Hind
