/-! feed, fault, mile, mark, undo -/
section Sml
variable {sv : Nat → Int32} {L : Nat}
/-- moves() -/
theorem mv_l {d' : cg} {a b : Nat} (hab : a ≠ b) (ha : a ≤ 6) (hb : b ≤ 6) : ∀ (n : Nat) {lf : dlf} {d : cg} {i : Nat}, lf 0 = (4, 253) → lf 1 = (0, (a : Int)) → lf 2 = (0, (b : Int)) → lf 3 = (0, (i : Int)) → i ≤ 744 → zr sv L n 256 2 lf [] d (d', none) → ∃ N d1 lf1, lf1 0 = (4, 253) ∧ lf1 1 = (0, (a : Int)) ∧ lf1 2 = (0, (b : Int)) ∧ lf1 3 = (0, 0) ∧ zr sv L N 256 41 lf1 [] d1 (d', none) ∧ (∀ k : Nat, k ≠ 254 → d1 k = d k) ∧ (∀ j : Nat, j < 744 * b + i ∨ 744 * b + 744 ≤ j → d1 254 j = d 254 j) ∧ ∀ j : Nat, i ≤ j → j < 744 → d1 254 (744 * b + j) = d 254 (744 * a + j)
  | 0, _, _, _, _, _, _, _, _, h => (zr_0 h).elim
  | n + 1, lf, d, i, h0, h1, h2, h3, hi, h => by
    rcases m_moves2 h h0 h1 h2 h3 with ⟨x, lx, z0, z1, z2, z3, h⟩ | ⟨x, h⟩
    · exact ⟨n, d, lx, z0, z1, z2, z3, h, fun _ _ => rfl, fun _ _ => rfl, fun j h1 h2 => by omega⟩
    · have ea : w32 (744 * (a : Int)) = ((744 * a : Nat) : Int) := by rw [w32_id (by omega) (by omega)]; omega
      have eb : w32 (744 * (b : Int)) = ((744 * b : Nat) : Int) := by rw [w32_id (by omega) (by omega)]; omega
      have ea2 : w32 (((744 * a : Nat) : Int) + (i : Int)) = ((744 * a + i : Nat) : Int) := by rw [w32_id (by omega) (by omega)]; omega
      have eb2 : w32 (((744 * b : Nat) : Int) + (i : Int)) = ((744 * b + i : Nat) : Int) := by rw [w32_id (by omega) (by omega)]; omega
      rw [ea, ea2, eb, eb2] at h
      obtain ⟨lx, z0, z1, z2, z3, h⟩ := h (by omega) (by omega)
      rw [show (((744 * b + i : Nat) : Int)).toNat = 744 * b + i from rfl, show (((744 * a + i : Nat) : Int)).toNat = 744 * a + i from rfl] at h
      obtain ⟨N, d1, lf1, y0, y1, y2, y3, y4, y5, y6, y7⟩ := mv_l hab ha hb n (i := i + 1) z0 z1 z2 (by rw [z3, w32_id (by omega) (by omega)]; rfl) (by omega) h
      refine ⟨N, d1, lf1, y0, y1, y2, y3, y4, fun k hk => (y5 k hk).trans (cup_row _ _ _ hk), fun j hj => by rw [y6 j (by omega), cup_ne (by omega)], fun j j1 j2 => ?_⟩
      by_cases e : j = i
      · subst e
        rw [y6 _ (by omega), cup_at]
      · rw [y7 j (by omega) j2, cup_ne (by omega)]
theorem mn_l {d' : cg} {a b : Nat} (hab : a ≠ b) (ha : a ≤ 5) (hb : b ≤ 5) : ∀ (n : Nat) {lf : dlf} {d : cg} {i : Nat}, lf 0 = (4, 253) → lf 1 = (0, (a : Int)) → lf 2 = (0, (b : Int)) → lf 3 = (0, (i : Int)) → i ≤ 12 → zr sv L n 256 41 lf [] d (d', none) → (∀ k : Nat, k ≠ 255 → d' k = d k) ∧ (∀ j : Nat, j < 12 * b + i ∨ 12 * b + 12 ≤ j → d' 255 j = d 255 j) ∧ ∀ j : Nat, i ≤ j → j < 12 → d' 255 (12 * b + j) = d 255 (12 * a + j)
  | 0, _, _, _, _, _, _, _, _, h => (zr_0 h).elim
  | n + 1, lf, d, i, h0, h1, h2, h3, hi, h => by
    rcases m_moves41 h h0 h1 h2 h3 with ⟨x, h⟩ | ⟨x, h⟩
    · rw [oV h]
      exact ⟨fun _ _ => rfl, fun _ _ => rfl, fun j h1 h2 => by omega⟩
    · have ea : w32 (12 * (a : Int)) = ((12 * a : Nat) : Int) := by rw [w32_id (by omega) (by omega)]; omega
      have eb : w32 (12 * (b : Int)) = ((12 * b : Nat) : Int) := by rw [w32_id (by omega) (by omega)]; omega
      have ea2 : w32 (((12 * a : Nat) : Int) + (i : Int)) = ((12 * a + i : Nat) : Int) := by rw [w32_id (by omega) (by omega)]; omega
      have eb2 : w32 (((12 * b : Nat) : Int) + (i : Int)) = ((12 * b + i : Nat) : Int) := by rw [w32_id (by omega) (by omega)]; omega
      rw [ea, ea2, eb, eb2] at h
      obtain ⟨lx, z0, z1, z2, z3, h⟩ := h (by omega) (by omega)
      rw [show (((12 * b + i : Nat) : Int)).toNat = 12 * b + i from rfl, show (((12 * a + i : Nat) : Int)).toNat = 12 * a + i from rfl] at h
      obtain ⟨y5, y6, y7⟩ := mn_l hab ha hb n (i := i + 1) z0 z1 z2 (by rw [z3, w32_id (by omega) (by omega)]; rfl) (by omega) h
      refine ⟨fun k hk => (y5 k hk).trans (cup_row _ _ _ hk), fun j hj => by rw [y6 j (by omega), cup_ne (by omega)], fun j j1 j2 => ?_⟩
      by_cases e : j = i
      · subst e
        rw [y6 _ (by omega), cup_at]
      · rw [y7 j (by omega) j2, cup_ne (by omega)]
theorem moves_ok {n : Nat} {lf : dlf} {d d' : cg} {a b : Nat} (hab : a ≠ b) (ha : a ≤ 5) (hb : b ≤ 5) (h : zr sv L n 256 0 lf [] d (d', none)) (h0 : lf 0 = (4, 253)) (h1 : lf 1 = (0, (a : Int))) (h2 : lf 2 = (0, (b : Int))) : (∀ k : Nat, k ≠ 254 → k ≠ 255 → d' k = d k) ∧ (∀ j : Nat, j < 744 * b ∨ 744 * b + 744 ≤ j → d' 254 j = d 254 j) ∧ (∀ j : Nat, j < 744 → d' 254 (744 * b + j) = d 254 (744 * a + j)) ∧ (∀ j : Nat, j < 12 * b ∨ 12 * b + 12 ≤ j → d' 255 j = d 255 j) ∧ ∀ j : Nat, j < 12 → d' 255 (12 * b + j) = d 255 (12 * a + j) := by
  obtain ⟨lx, z0, z1, z2, z3, h⟩ := m_moves0 h h0 h1 h2
  obtain ⟨N, d1, lf1, y0, y1, y2, y3, y4, y5, y6, y7⟩ := mv_l hab (by omega) (by omega) n (i := 0) z0 z1 z2 z3 (by omega) h
  obtain ⟨w5, w6, w7⟩ := mn_l hab ha hb N (i := 0) y0 y1 y2 y3 (by omega) y4
  refine ⟨fun k k1 k2 => (w5 k k2).trans (y5 k k1), fun j hj => by rw [w5 254 (by decide)]; exact y6 j (by omega), fun j hj => by rw [w5 254 (by decide)]; exact y7 j (by omega) hj, fun j hj => by rw [w6 j (by omega), y5 255 (by decide)], fun j hj => by rw [w7 j (by omega) hj, y5 255 (by decide)]⟩
theorem CPD.sc {D S a n a' n' : Nat} {g g' g2 : cg} (h : CPD D S g g') (hD : ∀ k j : Nat, D ≤ k → k < D + 42 → g2 k j = g' k j) (h1 : ∀ j : Nat, j < 260 → g2 254 (a' + j) = g 254 (a + j)) (h2 : ∀ j : Nat, j < 12 → g2 255 (n' + j) = g 255 (n + j)) : SC S a n D a' n' g g2 := by
  obtain ⟨c1, c2, ⟨c3, c4⟩, c5, c6, c7, c8⟩ := h
  exact ⟨⟨(hD _ _ (by omega) (by omega)).trans (c2 0 (by omega)), (hD _ _ (by omega) (by omega)).trans (c2 3 (by omega))⟩, fun i hi => (hD _ _ (by omega) (by omega)).trans (c4 i hi), fun i i1 i2 => (hD _ _ (by omega) (by omega)).trans ((c5 i i1 i2).1 0 (by omega)), ⟨h1 0 (by omega), h1 1 (by omega)⟩, h2⟩
theorem CPD.sx {D S a s a' s' : Nat} {g g' g2 : cg} (h : CPD D S g g') (hD : ∀ k j : Nat, D ≤ k → k < D + 42 → g2 k j = g' k j) (h1 : ∀ j : Nat, j < 260 → g2 254 (a' + j) = g 254 (a + j)) (h2 : ∀ j : Nat, j < 480 → g2 254 (s' + j) = g 254 (s + j)) : SX S a s D a' s' g g2 := by
  obtain ⟨c1, c2, ⟨c3, c4⟩, c5, c6, c7, c8⟩ := h
  exact ⟨fun j hj n1 n2 n4 => (hD _ _ (by omega) (by omega)).trans (c2 j (by omega)), fun i hi => (hD _ _ (by omega) (by omega)).trans (c3 i hi), fun i i1 i2 => ⟨fun j hj => (hD _ _ (by omega) (by omega)).trans ((c5 i i1 i2).1 j hj), fun t ht => (hD _ _ (by omega) (by omega)).trans ((c5 i i1 i2).2 t ht)⟩, fun k k1 k2 j hj => (hD _ _ (by omega) (by omega)).trans (c6 k k1 k2 j (by omega)), ⟨(hD _ _ (by omega) (by omega)).trans (c7 0 (by omega)), fun _ => ⟨(hD _ _ (by omega) (by omega)).trans (c7 2 (by omega)), fun q r hq hr => (hD _ _ (by omega) (by omega)).trans (c8 q r hq hr)⟩⟩, h1, h2⟩
theorem call_mk {n : Nat} {lf : dlf} {g g' : cg} {m : Nat} (hm : m < 3) (h : zr sv L n 59 0 lf [] g (g', none)) (h0 : lf 0 = (4, (127 : Int) + 42 * (m : Int))) (h1 : lf 1 = (4, 3)) : CPD (127 + 42 * m) 3 g g' := by
  rcases (show m = 0 ∨ m = 1 ∨ m = 2 from by omega) with e | e | e <;> subst e
  · exact call_127_3 h h0 h1
  · exact call_169_3 h h0 h1
  · exact call_211_3 h h0 h1
theorem call_un {n : Nat} {lf : dlf} {g g' : cg} {m : Nat} (hm : m < 3) (h : zr sv L n 59 0 lf [] g (g', none)) (h0 : lf 0 = (4, 3)) (h1 : lf 1 = (4, (127 : Int) + 42 * (m : Int))) : CPD 3 (127 + 42 * m) g g' := by
  rcases (show m = 0 ∨ m = 1 ∨ m = 2 from by omega) with e | e | e <;> subst e
  · exact call_3_127 h h0 h1
  · exact call_3_169 h h0 h1
  · exact call_3_211 h h0 h1
theorem tt_mark : TT sv L 367 := by
  intro c g g' al r r' n n' lf lf' hP _ har _ h0 hl h h0' hl' h'
  obtain ⟨hR, -, -, hf, hf', -⟩ := hP
  obtain ⟨hC, m, m1, m2, m3, m4⟩ := hR
  have hR : yR 0 c := ⟨hC, m, m1, m2, m3, m4⟩
  have h := t_mark h h0
  have h' := m_mark h' h0'
  have d39 : g 253 39 = (m : Int) := by rw [hf 253 (by decide) (by decide)]; exact m3
  rcases h with ⟨x, h⟩ | ⟨x, g7, r8, k1, o⟩
  · rcases h' with ⟨x', d2, q1, d3, s4, q2, o'⟩ | ⟨x', h'⟩
    · obtain ⟨g4, k1, g5, r6, k2, o⟩ := h (by omega) (by omega)
      rw [m2] at k1
      have hm : m < 3 := by omega
      have C := call_mk hm k1 rfl rfl
      rw [d39, show w32 ((m : Int) + 1) = ((m + 1 : Nat) : Int) by rw [w32_id (by omega) (by omega)]; rfl] at q1
      obtain ⟨M1, M2, M3, M4, M5⟩ := moves_ok (a := 0) (b := m + 1) (by omega) (by omega) (by omega) q1 rfl rfl rfl
      obtain ⟨u1, u2⟩ := oI (t_give k2 rfl rfl)
      obtain ⟨v1, v2⟩ := oI (m_gives q2 rfl rfl)
      obtain ⟨w1, w2⟩ := oI o
      obtain ⟨y1, y2⟩ := oI o'
      have g49 : g4 0 9 = (m : Int) := by rw [C.1 0 (by omega)]; exact m2
      have d239 : d2 253 39 = ((m + 1 : Nat) : Int) := by rw [M1 253 (by decide) (by decide), cup_at]
      rw [g49, show w32 ((m : Int) + 1) = ((m + 1 : Nat) : Int) by rw [w32_id (by omega) (by omega)]; rfl] at u1 u2
      -- the class's cells, the reference's
      have A : ∀ k j : Nat, k < 253 → ¬ (k = 0 ∧ j = 0) → ¬ (k = 0 ∧ j = 9) → g' k j = g4 k j := fun k j e e1 e2 => by
        rw [hf' k e, w1, u1, cup_ne e1, cup_ne e2]
      have A' : ∀ k j : Nat, k < 253 → ¬ (k = 0 ∧ j = 0) → ¬ (k = 0 ∧ j = 9) → (k < 127 + 42 * m ∨ 127 + 42 * m + 42 ≤ k) → g' k j = c k j := fun k j e e1 e2 e3 => by
        rw [A k j e e1 e2, C.1 k e3]
      have G : ∀ k j : Nat, 253 ≤ k → k < 270 → g k j = c k j := fun k j e1 e2 => by rw [hf k e1 e2]
      have Bb : ∀ k j : Nat, k ≠ 254 → k ≠ 255 → 253 ≤ k → k < 270 → ¬ (k = 253 ∧ j = 2) → ¬ (k = 253 ∧ j = 39) → g' k j = c k j := fun k j e1 e2 e3 e4 e5 e6 => by
        rw [y1, v1, cup_ne e5, M1 k e1 e2, cup_ne e6, G k j e3 e4]
      have B4 : ∀ j : Nat, j < 744 * (m + 1) ∨ 744 * (m + 1) + 744 ≤ j → g' 254 j = c 254 j := fun j hj => by
        rw [y1, v1, cup_ne (by omega), M2 j hj, cup_ne (by omega), G 254 j (by omega) (by omega)]
      have B5 : ∀ j : Nat, j < 12 * (m + 1) ∨ 12 * (m + 1) + 12 ≤ j → g' 255 j = c 255 j := fun j hj => by
        rw [y1, v1, cup_ne (by omega), M4 j hj, cup_ne (by omega), G 255 j (by omega) (by omega)]
      have B4n : ∀ j : Nat, j < 744 → g' 254 (744 * (m + 1) + j) = c 254 j := fun j hj => by
        rw [y1, v1, cup_ne (by omega), M3 j hj, cup_ne (by omega), G 254 _ (by omega) (by omega), show 744 * 0 + j = j by omega]
      have B5n : ∀ j : Nat, j < 12 → g' 255 (12 * (m + 1) + j) = c 255 j := fun j hj => by
        rw [y1, v1, cup_ne (by omega), M5 j hj, cup_ne (by omega), G 255 _ (by omega) (by omega), show 12 * 0 + j = j by omega]
      refine ⟨fun _ => ⟨hC.upx (fun k j k1 k2 => A' _ _ (by omega) (by omega) (by omega) (by omega)) (fun j _ _ => B4 j (by omega)) (fun j _ _ => B4 j (by omega)) (fun j _ _ => B5 j (by omega)), m + 1, by omega, by rw [hf' 0 (by decide), w1, u1, cup_ne (by omega), cup_at], by rw [y1, v1, cup_ne (by omega), d239], fun i hi => ?_⟩, ?_⟩
      · by_cases e : i = m
        · subst e
          exact hC.mvx (by decide) (by omega) (C.sc (fun k j k1 k2 => A k j (by omega) (by omega) (by omega)) (fun j hj => by rw [B4n j (by omega), Nat.zero_add]) (fun j hj => by rw [B5n j hj, Nat.zero_add])) (C.sx (fun k j k1 k2 => A k j (by omega) (by omega) (by omega)) (fun j hj => by rw [B4n j (by omega), Nat.zero_add]) (fun j hj => by rw [Nat.add_assoc, B4n (260 + j) (by omega)]))
        · exact (m4 i (by omega)).upx (fun k j k1 k2 => A' _ _ (by omega) (by omega) (by omega) (by omega)) (fun j j1 j2 => B4 j (by omega)) (fun j j1 j2 => B4 j (by omega)) (fun j j1 j2 => B5 j (by omega))
      · rw [w2, u2, y2, v2, d239]
    · omega
  · rcases h' with ⟨x', h'⟩ | ⟨x', d5, s6, q1, o'⟩
    · omega
    · obtain ⟨u1, u2⟩ := oI (t_refuse k1 rfl rfl)
      obtain ⟨v1, v2⟩ := oI (m_refuse q1 rfl rfl)
      obtain ⟨w1, w2⟩ := oI o
      obtain ⟨y1, y2⟩ := oI o'
      refine ⟨fun _ => yR_st hR (fun k j i1 i2 => ?_), by omega⟩
      rw [y1, v1, cup_ne i2, w1, u1, cup_ne i1]
theorem tt_undo : TT sv L 369 := by
  intro c g g' al r r' n n' lf lf' hP _ har _ h0 hl h h0' hl' h'
  obtain ⟨hR, -, -, hf, hf', -⟩ := hP
  obtain ⟨hC, m, m1, m2, m3, m4⟩ := hR
  have hR : yR 0 c := ⟨hC, m, m1, m2, m3, m4⟩
  have h := t_undo h h0
  have h' := m_undo h' h0'
  have d39 : g 253 39 = (m : Int) := by rw [hf 253 (by decide) (by decide)]; exact m3
  rcases h with ⟨x, h⟩ | ⟨x, g7, r8, k1, o⟩
  · rcases h' with ⟨x', d2, q1, d3, s4, q2, o'⟩ | ⟨x', h'⟩
    · obtain ⟨p, hp⟩ : ∃ p : Nat, m = p + 1 := ⟨m - 1, by omega⟩
      have w : w32 ((m : Int) - 1) = (p : Int) := by rw [w32_id (by omega) (by omega)]; omega
      rw [m2, w] at h
      obtain ⟨g4, k1, g5, r6, k2, o⟩ := h (by omega) (by omega)
      have C := call_un (m := p) (by omega) k1 rfl rfl
      rw [d39] at q1
      obtain ⟨M1, M2, M3, M4, M5⟩ := moves_ok (a := m) (b := 0) (by omega) (by omega) (by omega) q1 rfl rfl rfl
      obtain ⟨u1, u2⟩ := oI (t_give k2 rfl rfl)
      obtain ⟨v1, v2⟩ := oI (m_gives q2 rfl rfl)
      obtain ⟨w1, w2⟩ := oI o
      obtain ⟨y1, y2⟩ := oI o'
      have g49 : g4 0 9 = (p : Int) := by rw [C.1 0 (by omega), cup_at]
      have d239 : d2 253 39 = (m : Int) := by rw [M1 253 (by decide) (by decide)]; exact d39
      rw [d239, w] at v1 v2
      have A : ∀ k j : Nat, k < 253 → ¬ (k = 0 ∧ j = 0) → g' k j = g4 k j := fun k j e e1 => by
        rw [hf' k e, w1, u1, cup_ne e1]
      have A' : ∀ k j : Nat, k < 253 → ¬ (k = 0 ∧ j = 0) → ¬ (k = 0 ∧ j = 9) → (k < 3 ∨ 45 ≤ k) → g' k j = c k j := fun k j e e1 e2 e3 => by
        rw [A k j e e1, C.1 k (by omega), cup_ne e2]
      have G : ∀ k j : Nat, 253 ≤ k → k < 270 → g k j = c k j := fun k j e1 e2 => by rw [hf k e1 e2]
      have Bb : ∀ k j : Nat, k ≠ 254 → k ≠ 255 → 253 ≤ k → k < 270 → ¬ (k = 253 ∧ j = 2) → ¬ (k = 253 ∧ j = 39) → g' k j = c k j := fun k j e1 e2 e3 e4 e5 e6 => by
        rw [y1, v1, cup_ne e5, cup_ne e6, M1 k e1 e2, G k j e3 e4]
      have B4 : ∀ j : Nat, 744 ≤ j → g' 254 j = c 254 j := fun j hj => by
        rw [y1, v1, cup_ne (by omega), cup_ne (by omega), M2 j (by omega), G 254 j (by omega) (by omega)]
      have B5 : ∀ j : Nat, 12 ≤ j → g' 255 j = c 255 j := fun j hj => by
        rw [y1, v1, cup_ne (by omega), cup_ne (by omega), M4 j (by omega), G 255 j (by omega) (by omega)]
      have B4n : ∀ j : Nat, j < 744 → g' 254 (0 + j) = c 254 (744 * (p + 1) + j) := fun j hj => by
        have q := M3 j hj
        rw [show 744 * 0 + j = 0 + j by omega, hp] at q
        rw [y1, v1, cup_ne (by omega), cup_ne (by omega), q, G 254 _ (by omega) (by omega)]
      have B5n : ∀ j : Nat, j < 12 → g' 255 (0 + j) = c 255 (12 * (p + 1) + j) := fun j hj => by
        have q := M5 j hj
        rw [show 12 * 0 + j = 0 + j by omega, hp] at q
        rw [y1, v1, cup_ne (by omega), cup_ne (by omega), q, G 255 _ (by omega) (by omega)]
      refine ⟨fun _ => ⟨?_, p, by omega, by rw [A 0 9 (by omega) (by omega)]; exact g49, by rw [y1, v1, cup_ne (by omega), cup_at], fun i hi => (m4 i (by omega)).upx (fun k j k1 k2 => A' _ _ (by omega) (by omega) (by omega) (by omega)) (fun j j1 j2 => B4 j (by omega)) (fun j j1 j2 => B4 j (by omega)) (fun j j1 j2 => B5 j (by omega))⟩, ?_⟩
      · have C0 : SC (127 + 42 * p) (744 * (p + 1)) (12 * (p + 1)) 3 0 0 (cup c 0 9 (p : Int)) g' := C.sc (fun k j k1 k2 => A k j (by omega) (by omega)) (fun j hj => by rw [B4n j (by omega), cup_ne (by omega)]) (fun j hj => by rw [B5n j hj, cup_ne (by omega)])
        have C1 : SX (127 + 42 * p) (744 * (p + 1)) (744 * (p + 1) + 260) 3 0 260 (cup c 0 9 (p : Int)) g' := C.sx (fun k j k1 k2 => A k j (by omega) (by omega)) (fun j hj => by rw [B4n j (by omega), cup_ne (by omega)]) (fun j hj => by
          have q := B4n (260 + j) (by omega)
          rw [Nat.zero_add] at q
          rw [q, cup_ne (by omega), Nat.add_assoc])
        exact ((m4 p (by omega)).upx (g' := cup c 0 9 (p : Int)) (fun k j k1 k2 => cup_ne (by omega)) (fun j _ _ => cup_ne (by omega)) (fun j _ _ => cup_ne (by omega)) (fun j _ _ => cup_ne (by omega))).mvx (by omega) (by decide) C0 C1
      · rw [w2, u2, y2, v2, g49]
    · omega
  · rcases h' with ⟨x', h'⟩ | ⟨x', d5, s6, q1, o'⟩
    · omega
    · obtain ⟨u1, u2⟩ := oI (t_refuse k1 rfl rfl)
      obtain ⟨v1, v2⟩ := oI (m_refuse q1 rfl rfl)
      obtain ⟨w1, w2⟩ := oI o
      obtain ⟨y1, y2⟩ := oI o'
      refine ⟨fun _ => yR_st hR (fun k j i1 i2 => ?_), by omega⟩
      rw [y1, v1, cup_ne i2, w1, u1, cup_ne i1]
end Sml
