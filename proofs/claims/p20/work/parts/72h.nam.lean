/-! keys, names -/
def KC (i : Nat) : Int := (((xeb 4).getD i 0 : Nat) : Int)
def KW : List (Nat × Nat) := [(1, 6), (7, 13), (14, 19), (20, 25), (26, 29), (30, 34), (35, 39), (40, 45), (46, 48), (49, 54), (55, 60), (61, 67), (68, 70), (71, 75), (76, 81), (82, 86), (87, 91), (92, 98), (99, 102), (103, 107), (108, 112), (113, 116), (117, 121), (122, 126), (127, 133)]
def ks (n : Nat) : Nat := (KW.getD n (134, 0)).1
def ke (n : Nat) : Nat := (KW.getD n (134, 0)).2
/-- the class's keys: numbers, and which of the reference's each is -/
def KV : List (Int × Nat) := [(17171557, 0), (52, 8), (542723566, 1), (17484389, 9), (3417476, 10), (77177328, 11), (21734867, 2), (12009203, 3), (23603, 4), (302, 12), (278194, 13), (67173, 5), (441925, 6), (20452516, 7), (20681778, 14), (624435, 15), (206276, 16), (609322452, 17), (1497, 18), (762030, 19), (664972, 23), (658552979, 24), (409072, 20), (5572, 21), (643568, 22)]
def kv (i : Nat) : Int := (KV.getD i (0, 25)).1
def km (i : Nat) : Nat := (KV.getD i (0, 25)).2
theorem kw1 : ∀ n, n < 25 → ks n < ke n ∧ ke n ≤ ks n + 8 ∧ ke n < 134 ∧ KC (ke n) = 32 ∧ ks (n + 1) = ke n + 1 := by decide +kernel
theorem kw2 : ∀ n, n < 25 → ∀ i, i < 134 → ks n ≤ i → i < ke n → 97 ≤ KC i ∧ KC i ≤ 122 := by decide +kernel
theorem kw3 : ∀ i, i < 25 → km i < 25 ∧ kv i = P5 KC (ks (km i)) (ke (km i) - ks (km i)) := by decide +kernel
theorem kw4 : ∀ n, n < 25 → ∃ i, i < 25 ∧ km i = n := by decide +kernel
theorem chr_tab : ∀ k, k < 134 → ((i32 ((i32 ((nI ((xeb 4).getD k 0)).toInt) &&& i32 255).toInt)).toUInt32 % 65536).toInt32.toInt = KC k := by decide +kernel
theorem len_tab : (i32 134 >>> (i32 0 &&& 31)).toInt = 134 := by decide +kernel
/-- two words of one number are the same -/
theorem P5_inj {b b' : Nat → Int} {p p' : Nat} : ∀ (k k' : Nat), (∀ j, p ≤ j → j < p + k → sml (b j)) → (∀ j, p' ≤ j → j < p' + k' → sml (b' j)) → P5 b p k = P5 b' p' k' → k = k' ∧ ∀ i, i < k → b (p + i) = b' (p' + i)
  | 0, 0, _, _, _ => ⟨rfl, fun i hi => absurd hi (Nat.not_lt_zero i)⟩
  | 0, k' + 1, _, h2, h => by
    have h3 := (P5_bd k' (fun j a c => h2 j a (by omega))).1
    have h4 := h2 (p' + k') (by omega) (by omega)
    unfold sml at h4
    have h : (0 : Int) = P5 b' p' k' * 32 + (b' (p' + k') - 96) := h
    omega
  | k + 1, 0, h1, _, h => by
    have h3 := (P5_bd k (fun j a c => h1 j a (by omega))).1
    have h4 := h1 (p + k) (by omega) (by omega)
    unfold sml at h4
    have h : P5 b p k * 32 + (b (p + k) - 96) = (0 : Int) := h
    omega
  | k + 1, k' + 1, h1, h2, h => by
    have h3 := h1 (p + k) (by omega) (by omega)
    have h4 := h2 (p' + k') (by omega) (by omega)
    unfold sml at h3 h4
    have h : P5 b p k * 32 + (b (p + k) - 96) = P5 b' p' k' * 32 + (b' (p' + k') - 96) := h
    obtain ⟨e1, e2⟩ := P5_inj k k' (fun j a c => h1 j a (by omega)) (fun j a c => h2 j a (by omega)) (by omega)
    subst e1
    refine ⟨rfl, fun i hi => ?_⟩
    by_cases e : i = k
    · rw [e]; omega
    · exact e2 i (by omega)
theorem P5_cg {b b' : Nat → Int} {p p' : Nat} : ∀ (k : Nat), (∀ i, i < k → b (p + i) = b' (p' + i)) → P5 b p k = P5 b' p' k
  | 0, _ => rfl
  | k + 1, h => by
    show P5 b p k * 32 + (b (p + k) - 96) = P5 b' p' k * 32 + (b' (p' + k) - 96)
    rw [P5_cg k (fun i hi => h i (by omega)), h k (by omega)]
def P8 (b : Nat → Int) (p : Nat) : Nat → Int
  | 0 => 0
  | k + 1 => P8 b p k * 256 + b (p + k)
theorem P8_bd {b : Nat → Int} {p : Nat} : ∀ k : Nat, (∀ j, p ≤ j → j < p + k → sml (b j)) → 0 ≤ P8 b p k ∧ P8 b p k + 1 ≤ ((256 ^ k : Nat) : Int)
  | 0, _ => ⟨by show (0 : Int) ≤ 0; omega, by show (0 : Int) + 1 ≤ ((1 : Nat) : Int); omega⟩
  | k + 1, h => by
    obtain ⟨h1, h2⟩ := P8_bd k (fun j a c => h j a (by omega))
    have h3 := h (p + k) (by omega) (by omega)
    unfold sml at h3
    have e : (256 : Nat) ^ (k + 1) = 256 ^ k * 256 := Nat.pow_succ _ _
    have e2 : P8 b p (k + 1) = P8 b p k * 256 + b (p + k) := rfl
    rw [e2, e]
    omega
theorem P8_55 {b : Nat → Int} {p : Nat} : ∀ k : Nat, (∀ j, p ≤ j → j < p + (k + 1) → sml (b j)) → 0 ≤ P8 b p (k + 1) ∧ P8 b p (k + 1) + 1 ≤ ((128 * 256 ^ k : Nat) : Int)
  | 0, h => by
    have h3 := h p (by omega) (by omega)
    unfold sml at h3
    have e2 : P8 b p 1 = 0 * 256 + b (p + 0) := rfl
    rw [Nat.add_zero] at e2
    rw [e2]
    have e : (128 : Nat) * 256 ^ 0 = 128 := by decide
    rw [e]
    omega
  | k + 1, h => by
    obtain ⟨h1, h2⟩ := P8_55 k (fun j a c => h j a (by omega))
    have h3 := h (p + (k + 1)) (by omega) (by omega)
    unfold sml at h3
    have e : (128 : Nat) * 256 ^ (k + 1) = 128 * 256 ^ k * 256 := by rw [Nat.pow_succ, Nat.mul_assoc]
    have e2 : P8 b p (k + 1 + 1) = P8 b p (k + 1) * 256 + b (p + (k + 1)) := rfl
    rw [e2, e]
    omega
theorem P8_7 {b : Nat → Int} {p i : Nat} (hi : i ≤ 7) (h : ∀ j, p ≤ j → j < p + i → sml (b j)) : 0 ≤ P8 b p i ∧ P8 b p i < 36028797018963968 := by
  cases i with
  | zero => exact ⟨by show (0 : Int) ≤ 0; omega, by show (0 : Int) < 36028797018963968; omega⟩
  | succ k =>
    obtain ⟨h1, h2⟩ := P8_55 k h
    have h3 : (256 : Nat) ^ k ≤ 256 ^ 6 := Nat.pow_le_pow_right (by decide) (by omega)
    have h4 : (256 : Nat) ^ 6 = 281474976710656 := by decide
    have h5 : 128 * 256 ^ k ≤ 128 * 281474976710656 := Nat.mul_le_mul_left 128 (by omega)
    exact ⟨h1, by omega⟩
theorem P8_inj {b b' : Nat → Int} {p p' : Nat} : ∀ (k k' : Nat), (∀ j, p ≤ j → j < p + k → sml (b j)) → (∀ j, p' ≤ j → j < p' + k' → sml (b' j)) → P8 b p k = P8 b' p' k' → k = k' ∧ ∀ i, i < k → b (p + i) = b' (p' + i)
  | 0, 0, _, _, _ => ⟨rfl, fun i hi => absurd hi (Nat.not_lt_zero i)⟩
  | 0, k' + 1, _, h2, h => by
    have h3 := (P8_bd k' (fun j a c => h2 j a (by omega))).1
    have h4 := h2 (p' + k') (by omega) (by omega)
    unfold sml at h4
    have h : (0 : Int) = P8 b' p' k' * 256 + b' (p' + k') := h
    omega
  | k + 1, 0, h1, _, h => by
    have h3 := (P8_bd k (fun j a c => h1 j a (by omega))).1
    have h4 := h1 (p + k) (by omega) (by omega)
    unfold sml at h4
    have h : P8 b p k * 256 + b (p + k) = (0 : Int) := h
    omega
  | k + 1, k' + 1, h1, h2, h => by
    have h3 := h1 (p + k) (by omega) (by omega)
    have h4 := h2 (p' + k') (by omega) (by omega)
    unfold sml at h3 h4
    have h : P8 b p k * 256 + b (p + k) = P8 b' p' k' * 256 + b' (p' + k') := h
    obtain ⟨e1, e2⟩ := P8_inj k k' (fun j a c => h1 j a (by omega)) (fun j a c => h2 j a (by omega)) (by omega)
    subst e1
    refine ⟨rfl, fun i hi => ?_⟩
    by_cases e : i = k
    · rw [e]; omega
    · exact e2 i (by omega)
theorem P8_cg {b b' : Nat → Int} {p p' : Nat} : ∀ (k : Nat), (∀ i, i < k → b (p + i) = b' (p' + i)) → P8 b p k = P8 b' p' k
  | 0, _ => rfl
  | k + 1, h => by
    show P8 b p k * 256 + b (p + k) = P8 b' p' k * 256 + b' (p' + k)
    rw [P8_cg k (fun i hi => h i (by omega)), h k (by omega)]
/-- shifted by a byte, and a byte in -/
theorem nm8 {a c : Nat} (ha : a < 36028797018963968) (hc : c < 256) : (i64 ((i64 (a : Int) <<< ((i32 8).toInt64 &&& 63)).toInt) ||| i64 (c : Int)).toInt = (a : Int) * 256 + (c : Int) := by
  rw [i64_of]
  have e8 : ((i32 8).toInt64 &&& 63).toBitVec.smod 64 = 8#64 := by decide +kernel
  have e : i64 (a : Int) <<< ((i32 8).toInt64 &&& 63) ||| i64 (c : Int) = i64 ((a * 256 + c : Nat) : Int) := by
    apply Int64.toBitVec_inj.1
    rw [Int64.toBitVec_or, Int64.toBitVec_shiftLeft, e8]
    apply BitVec.eq_of_toNat_eq
    have t : ∀ n : Nat, n < 18446744073709551616 → (i64 (n : Int)).toBitVec.toNat = n := by
      intro n hn
      show (BitVec.ofNat 64 (c64 (n : Int))).toNat = n
      rw [BitVec.toNat_ofNat]
      unfold c64
      omega
    rw [BitVec.toNat_or, t c (by omega), t (a * 256 + c) (by omega), BitVec.shiftLeft_eq', BitVec.toNat_shiftLeft, t a (by omega)]
    have e9 : (8#64).toNat = 8 := rfl
    rw [e9]
    have e10 : a <<< 8 % 18446744073709551616 = a <<< 8 := by
      rw [Nat.shiftLeft_eq]
      omega
    show a <<< 8 % 2 ^ 64 ||| c = a * 256 + c
    rw [show (2 : Nat) ^ 64 = 18446744073709551616 by decide, e10, ← Nat.shiftLeft_add_eq_or_of_lt (by omega), Nat.shiftLeft_eq]
  rw [e, i64_w, w64_id (by omega) (by omega)]
  omega
section Nam
variable {sv : Nat → Int32} {L : Nat} {o : cg × Option cv}
theorem oI {g g' : cg} {r r' : Int} (h : (g, (some (0, r) : Option cv)) = (g', some (0, r'))) : g = g' ∧ r = r' := ⟨(Prod.mk.inj h).1, (Prod.mk.inj (Option.some.inj (Prod.mk.inj h).2)).2⟩
theorem oL {g g' : cg} {r r' : Int} (h : (g, (some (2, r) : Option cv)) = (g', some (2, r'))) : g = g' ∧ r = r' := ⟨(Prod.mk.inj h).1, (Prod.mk.inj (Option.some.inj (Prod.mk.inj h).2)).2⟩
theorem oV {g g' : cg} (h : (g, (none : Option cv)) = (g', none)) : g = g' := (Prod.mk.inj h).1
theorem chr_ok {n : Nat} {lf : dlf} {g g1 : cg} {r : Int} {i : Nat} (h : zr sv L n 9 0 lf [] g (g1, some (0, r))) (h0 : lf 0 = (6, 3)) (h1 : lf 1 = (0, (i : Int))) : g1 = g ∧ i < 134 ∧ r = KC i := by
  obtain ⟨g2, r2, k1, h⟩ := t_chr h h0 h1
  have e1 := (oI (t_lat k1 rfl)).1
  rcases h with ⟨_, hf⟩ | ⟨_, g4, r5, k2, h⟩
  · exact hf.elim
  · obtain ⟨g5, k3, h2⟩ := t_lchr k2 rfl rfl
    obtain ⟨g6, r6, k4, h3⟩ := t_chk k3 rfl rfl
    rcases t_pre k4 rfl rfl rfl with ⟨c, hf⟩ | ⟨c, ⟨d, h4⟩ | ⟨d, hf⟩⟩
    · exact hf.elim
    · have i1 := (oI h4).1
      have i2 := oV h3
      have i3 := oI h2
      have i4 := oI h
      refine ⟨by rw [i4.1, i3.1, i2, i1, e1], by omega, ?_⟩
      rw [i4.2, i3.2]
      exact chr_tab i (by omega)
    · exact hf.elim
theorem len_ok {n : Nat} {lf : dlf} {g g1 : cg} {r : Int} (h : zr sv L n 7 0 lf [] g (g1, some (0, r))) (h0 : lf 0 = (6, 3)) : g1 = g ∧ r = 134 := by
  obtain ⟨g2, r2, k1, h⟩ := t_len h h0
  have e1 := oI (t_coder k1 rfl)
  have e2 := oI h
  refine ⟨by rw [e2.1, e1.1], ?_⟩
  rw [e2.2, e1.2]
  exact len_tab
/-- the token is the reference's key n -/
def MW (g : cg) (p q n : Nat) : Prop := ke n - ks n = q - p ∧ ∀ i, i < q - p → KC (ks n + i) = mb g (p + i)
theorem inw_e {g : cg} {p q k : Nat} (hp : g 253 13 = (p : Int)) (hq : g 253 14 = (q : Int)) (hpq : p ≤ q) (hq9 : q ≤ 900) (hk : k < 25) : ∀ (n : Nat) {lf : dlf} {c : Nat}, lf 0 = (4, 253) → lf 1 = (6, 3) → lf 2 = (0, (k : Int)) → lf 3 = (0, (ks k : Int)) → lf 4 = (0, (c : Int)) → ks k ≤ c → c ≤ ke k → zr sv L n 172 25 lf [] g o → ∃ lf' D, lf' 0 = (4, 253) ∧ lf' 1 = (6, 3) ∧ lf' 2 = (0, (k : Int)) ∧ lf' 3 = (0, (ks k : Int)) ∧ lf' 4 = (0, (ke k : Int)) ∧ lf' 5 = (0, D) ∧ lf' 6 = (0, (ks k : Int)) ∧ ((D = 1 ∧ ke k - ks k = q - p) ∨ (D = 0 ∧ ke k - ks k ≠ q - p)) ∧ zr sv L n 172 68 lf' [] g o
  | 0, _, _, _, _, _, _, _, _, _, h => (zr_0 h).elim
  | n + 1, lf, c, h0, h1, h2, h3, h4, hc1, hc2, h => by
    obtain ⟨w1, w2, w3, w4, w5⟩ := kw1 k hk
    obtain ⟨g1, r2, k1, h⟩ := t_inw25 h h0 h1 h2 h3 h4
    obtain ⟨e1, e2, e3⟩ := chr_ok (i := c) k1 rfl rfl
    rw [e1] at h
    rw [hp, hq, w32_id (z := (c : Int) - (ks k : Int)) (by omega) (by omega), w32_id (z := (q : Int) - (p : Int)) (by omega) (by omega), w32_id (z := (c : Int) + 1) (by omega) (by omega)] at h
    have hcc : r2 = 32 → c = ke k := by
      intro e
      by_cases hlt : c < ke k
      · have := kw2 k hk c e2 hc1 hlt
        omega
      · omega
    rcases h with ⟨hx, ⟨hy, lf', a0, a1, a2, a3, a4, a5, a6, h⟩ | ⟨hy, lf', a0, a1, a2, a3, a4, a5, a6, h⟩⟩ | ⟨hx, lf', a0, a1, a2, a3, a4, h⟩
    · have := hcc hx
      subst this
      exact ⟨lf', 0, a0, a1, a2, a3, a4, a5, a6, Or.inr ⟨rfl, by omega⟩, zr_m h⟩
    · have := hcc hx
      subst this
      exact ⟨lf', 1, a0, a1, a2, a3, a4, a5, a6, Or.inl ⟨rfl, by omega⟩, zr_m h⟩
    · have hlt : c < ke k := by
        by_cases e : c = ke k
        · rw [e3, e, w4] at hx
          exact absurd rfl hx
        · omega
      obtain ⟨lf2, D, b⟩ := inw_e hp hq hpq hq9 hk n (c := c + 1) a0 a1 a2 a3 (by rw [a4]; rfl) (by omega) (by omega) h
      obtain ⟨b0, b1, b2, b3, b4, b5, b6, b7, b8⟩ := b
      exact ⟨lf2, D, b0, b1, b2, b3, b4, b5, b6, b7, zr_m b8⟩
theorem inw_c {g : cg} {p q m k : Nat} (hp : g 253 13 = (p : Int)) (hq : g 253 14 = (q : Int)) (hpq : p ≤ q) (hqm : q ≤ m) (hm : g 253 11 = (m : Int)) (hm9 : m ≤ 900) (hB : MBY g) (hk : k < 25) : ∀ (n : Nat) {lf : dlf} {D : Int} {i : Nat}, lf 0 = (4, 253) → lf 1 = (6, 3) → lf 2 = (0, (k : Int)) → lf 3 = (0, (ks k : Int)) → lf 4 = (0, (ke k : Int)) → lf 5 = (0, D) → lf 6 = (0, ((ks k + i : Nat) : Int)) → ks k + i ≤ ke k → ((D = 1 ∧ ke k - ks k = q - p ∧ ∀ j, j < i → KC (ks k + j) = mb g (p + j)) ∨ (D = 0 ∧ ¬ MW g p q k)) → zr sv L n 172 68 lf [] g o → (MW g p q k ∧ o = (g, some (0, (k : Int)))) ∨ (¬ MW g p q k ∧ ∃ lf', lf' 0 = (4, 253) ∧ lf' 1 = (6, 3) ∧ lf' 2 = (0, ((k + 1 : Nat) : Int)) ∧ lf' 3 = (0, (ks (k + 1) : Int)) ∧ zr sv L n 172 14 lf' [] g o)
  | 0, _, _, _, _, _, _, _, _, _, _, _, _, h => (zr_0 h).elim
  | n + 1, lf, D, i, h0, h1, h2, h3, h4, h5, h6, hi, hD, h => by
    obtain ⟨w1, w2, w3, w4, w5⟩ := kw1 k hk
    have h := t_inw68 h h0 h1 h2 h3 h4 h5 h6
    rw [w32_id (z := (k : Int) + 1) (by omega) (by omega), w32_id (z := (ke k : Int) + 1) (by omega) (by omega)] at h
    have nxt : ∀ lf', lf' 0 = (4, 253) → lf' 1 = (6, 3) → lf' 2 = (0, (k : Int) + 1) → lf' 3 = (0, (ke k : Int) + 1) → zr sv L n 172 14 lf' [] g o → ¬ MW g p q k → (MW g p q k ∧ o = (g, some (0, (k : Int)))) ∨ (¬ MW g p q k ∧ ∃ lf', lf' 0 = (4, 253) ∧ lf' 1 = (6, 3) ∧ lf' 2 = (0, ((k + 1 : Nat) : Int)) ∧ lf' 3 = (0, (ks (k + 1) : Int)) ∧ zr sv L (n + 1) 172 14 lf' [] g o) := by
      intro lf' a0 a1 a2 a3 h hn
      exact Or.inr ⟨hn, lf', a0, a1, by rw [a2]; rfl, by rw [a3, w5]; rfl, zr_m h⟩
    rcases h with ⟨hx, ⟨hy, lf', a0, a1, a2, a3, h⟩ | ⟨hy, h⟩⟩ | ⟨hx, ⟨hy, lf', a0, a1, a2, a3, h⟩ | ⟨hy, g7, r8, k1, g9, r10, k2, h⟩⟩
    · rcases hD with ⟨d1, d2, d3⟩ | ⟨d1, d2⟩
      · omega
      · exact nxt lf' a0 a1 a2 a3 h d2
    · rcases hD with ⟨d1, d2, d3⟩ | ⟨d1, d2⟩
      · exact Or.inl ⟨⟨d2, fun j hj => d3 j (by omega)⟩, h⟩
      · exact absurd d1 hy
    · rcases hD with ⟨d1, d2, d3⟩ | ⟨d1, d2⟩
      · omega
      · exact nxt lf' a0 a1 a2 a3 h d2
    · obtain ⟨e1, e2, e3⟩ := chr_ok (i := ks k + i) k1 rfl rfl
      rw [e1] at k2
      rcases hD with ⟨d1, d2, d3⟩ | ⟨d1, d2⟩
      · have hiq : i < q - p := by omega
        have ew : w32 (w32 (g 253 13 + ((ks k + i : Nat) : Int)) - (ks k : Int)) = ((p + i : Nat) : Int) := by
          rw [hp, w32_id (z := (p : Int) + ((ks k + i : Nat) : Int)) (by omega) (by omega), w32_id (by omega) (by omega)]
          omega
        rw [ew] at k2
        obtain ⟨f1, f2⟩ := byt_ok (p := p + i) k2 rfl rfl hm hm9 hB
        rw [f1] at h
        rw [w32_id (z := ((ks k + i : Nat) : Int) + 1) (by omega) (by omega)] at h
        have f3 : r10 = mb g (p + i) := by
          rcases f2 with ⟨c1, c2⟩ | ⟨c1, c2⟩
          · omega
          · exact c2
        have fin : ∀ lf' D', lf' 0 = (4, 253) → lf' 1 = (6, 3) → lf' 2 = (0, (k : Int)) → lf' 3 = (0, (ks k : Int)) → lf' 4 = (0, (ke k : Int)) → lf' 5 = (0, D') → lf' 6 = (0, ((ks k + i : Nat) : Int) + 1) → ((D' = 1 ∧ ke k - ks k = q - p ∧ ∀ j, j < i + 1 → KC (ks k + j) = mb g (p + j)) ∨ (D' = 0 ∧ ¬ MW g p q k)) → zr sv L n 172 68 lf' [] g o → (MW g p q k ∧ o = (g, some (0, (k : Int)))) ∨ (¬ MW g p q k ∧ ∃ lf', lf' 0 = (4, 253) ∧ lf' 1 = (6, 3) ∧ lf' 2 = (0, ((k + 1 : Nat) : Int)) ∧ lf' 3 = (0, (ks (k + 1) : Int)) ∧ zr sv L (n + 1) 172 14 lf' [] g o) := by
          intro lf' D' a0 a1 a2 a3 a4 a5 a6 hD' h
          rcases inw_c hp hq hpq hqm hm hm9 hB hk n (i := i + 1) a0 a1 a2 a3 a4 a5 (by rw [a6]; rfl) (by omega) hD' h with z | ⟨z1, lf2, z2, z3, z4, z5, z6⟩
          · exact Or.inl z
          · exact Or.inr ⟨z1, lf2, z2, z3, z4, z5, zr_m z6⟩
        rcases h with ⟨hz, lf', a0, a1, a2, a3, a4, a5, a6, h⟩ | ⟨hz, lf', a0, a1, a2, a3, a4, a5, a6, h⟩
        · refine fin lf' 0 a0 a1 a2 a3 a4 a5 a6 (Or.inr ⟨rfl, fun hw => ?_⟩) h
          have := hw.2 i hiq
          omega
        · refine fin lf' 1 a0 a1 a2 a3 a4 a5 a6 (Or.inl ⟨rfl, d2, fun j hj => ?_⟩) h
          by_cases e : j = i
          · rw [e]; omega
          · exact d3 j (by omega)
      · exact absurd d1 hy
theorem inw_l {g : cg} {p q m : Nat} (hp : g 253 13 = (p : Int)) (hq : g 253 14 = (q : Int)) (hpq : p ≤ q) (hqm : q ≤ m) (hm : g 253 11 = (m : Int)) (hm9 : m ≤ 900) (hB : MBY g) : ∀ (n : Nat) {lf : dlf} {k : Nat}, lf 0 = (4, 253) → lf 1 = (6, 3) → lf 2 = (0, (k : Int)) → lf 3 = (0, (ks k : Int)) → k ≤ 25 → zr sv L n 172 14 lf [] g o → (∃ r, k ≤ r ∧ r < 25 ∧ MW g p q r ∧ o = (g, some (0, (r : Int)))) ∨ ((∀ r, k ≤ r → r < 25 → ¬ MW g p q r) ∧ o = (g, some (0, -1)))
  | 0, _, _, _, _, _, _, _, h => (zr_0 h).elim
  | n + 1, lf, k, h0, h1, h2, h3, hk, h => by
    obtain ⟨g1, r2, k1, h⟩ := t_inw14 h h0 h1 h2 h3
    obtain ⟨e1, e2⟩ := len_ok k1 rfl
    rw [e1, e2] at h
    rcases h with ⟨hx, h⟩ | ⟨hx, lf', a0, a1, a2, a3, a4, h⟩
    · refine Or.inr ⟨fun r c1 c2 => ?_, h⟩
      have := (kw1 k (by omega)).2.2.1
      have := (kw1 k (by omega)).1
      omega
    · have hk' : k < 25 := by
        by_cases e : k = 25
        · rw [e] at hx
          exact absurd hx (by decide)
        · omega
      obtain ⟨lf2, D, b0, b1, b2, b3, b4, b5, b6, b7, b8⟩ := inw_e hp hq hpq (by omega) hk' n (c := ks k) a0 a1 a2 a3 a4 (Nat.le_refl _) (Nat.le_of_lt (kw1 k hk').1) h
      rcases inw_c hp hq hpq hqm hm hm9 hB hk' n (i := 0) b0 b1 b2 b3 b4 b5 b6 (Nat.le_of_lt (kw1 k hk').1) (b7.imp (fun z => ⟨z.1, z.2, fun j hj => absurd hj (Nat.not_lt_zero j)⟩) (fun z => ⟨z.1, fun w => z.2 w.1⟩)) b8 with ⟨z1, z2⟩ | ⟨z1, lf3, z2, z3, z4, z5, z6⟩
      · exact Or.inl ⟨k, Nat.le_refl _, hk', z1, z2⟩
      · rcases inw_l hp hq hpq hqm hm hm9 hB n (k := k + 1) z2 z3 z4 z5 (by omega) z6 with ⟨r, y1, y2, y3, y4⟩ | ⟨y1, y2⟩
        · exact Or.inl ⟨r, by omega, y2, y3, y4⟩
        · refine Or.inr ⟨fun r c1 c2 => ?_, y2⟩
          by_cases e : r = k
          · rw [e]; exact z1
          · exact y1 r (by omega) c2
/-- inWords(KEYS): which key the token is -/
theorem inw_ok {n : Nat} {lf : dlf} {g g1 : cg} {r : Int} {p q m : Nat} (h : zr sv L n 172 0 lf [] g (g1, some (0, r))) (h0 : lf 0 = (4, 253)) (h1 : lf 1 = (6, 3)) (hp : g 253 13 = (p : Int)) (hq : g 253 12 = 2 → g 253 14 = (q : Int) ∧ p ≤ q ∧ q ≤ m) (hm : g 253 11 = (m : Int)) (hm9 : m ≤ 900) (hB : MBY g) : g1 = g ∧ ((g 253 12 ≠ 2 ∧ r = -1) ∨ (g 253 12 = 2 ∧ ((∃ k, k < 25 ∧ MW g p q k ∧ r = (k : Int)) ∨ ((∀ k, k < 25 → ¬ MW g p q k) ∧ r = -1)))) := by
  rcases t_inw0 h h0 h1 with ⟨hc, lf', a0, a1, a2, a3, h⟩ | ⟨hc, h⟩
  · obtain ⟨q1, q2, q3⟩ := hq hc
    rcases inw_l hp q1 q2 q3 hm hm9 hB n (k := 0) a0 a1 a2 a3 (by decide) h with ⟨k, y1, y2, y3, y4⟩ | ⟨y1, y2⟩
    · have e := oI y4
      exact ⟨e.1, Or.inr ⟨hc, Or.inl ⟨k, y2, y3, e.2⟩⟩⟩
    · have e := oI y2
      exact ⟨e.1, Or.inr ⟨hc, Or.inr ⟨fun k hk => y1 k (Nat.zero_le _) hk, e.2⟩⟩⟩
  · have e := oI h
    exact ⟨e.1, Or.inl ⟨hc, e.2⟩⟩
theorem nam_l {g : cg} {p q m : Nat} (hq : g 253 14 = (q : Int)) (hqm : q ≤ m) (hm : g 253 11 = (m : Int)) (hm9 : m ≤ 900) (hB : MBY g) (h8 : q - p ≤ 8) (hs : ∀ j, p ≤ j → j < q → sml (mb g j)) : ∀ (n : Nat) {lf : dlf} {i : Nat}, lf 0 = (4, 253) → lf 1 = (2, P8 (mb g) p i) → lf 3 = (0, ((p + i : Nat) : Int)) → p + i ≤ q → zr sv L n 183 7 lf [] g o → o = (g, some (2, P8 (mb g) p (q - p)))
  | 0, _, _, _, _, _, _, h => (zr_0 h).elim
  | n + 1, lf, i, h0, h1, h3, hi, h => by
    have h := t_name7 h h0 h1 h3
    rw [hq] at h
    rcases h with ⟨hx, h⟩ | ⟨hx, g2, r3, k1, lf', a0, a1, a3, h⟩
    · rw [h, show q - p = i by omega]
    · obtain ⟨f1, f2⟩ := byt_ok (p := p + i) k1 rfl rfl hm hm9 hB
      rw [f1] at h
      have f3 : r3 = mb g (p + i) := by
        rcases f2 with ⟨c1, c2⟩ | ⟨c1, c2⟩
        · omega
        · exact c2
      have hl := hs (p + i) (by omega) (by omega)
      unfold sml at hl
      have hb := P8_7 (b := mb g) (p := p) (i := i) (by omega) (fun j c1 c2 => hs j c1 (by omega))
      have e := nm8 (a := (P8 (mb g) p i).toNat) (c := (mb g (p + i)).toNat) (by omega) (by omega)
      rw [Int.toNat_of_nonneg hb.1, Int.toNat_of_nonneg (by omega)] at e
      refine nam_l hq hqm hm hm9 hB h8 hs n (i := i + 1) a0 ?_ ?_ (by omega) h
      · rw [a1, f3, e]
        rfl
      · rw [a3, w32_id (by omega) (by omega)]
        rfl
/-- nameHere(): the name as a number -/
theorem nam_ok {n : Nat} {lf : dlf} {g g1 : cg} {r : Int} {p q m : Nat} (h : zr sv L n 183 0 lf [] g (g1, some (2, r))) (h0 : lf 0 = (4, 253)) (hp : g 253 13 = (p : Int)) (hq : g 253 14 = (q : Int)) (hpq : p ≤ q) (hqm : q ≤ m) (hm : g 253 11 = (m : Int)) (hm9 : m ≤ 900) (hB : MBY g) (h8 : q - p ≤ 8) (hs : ∀ j, p ≤ j → j < q → sml (mb g j)) : g1 = g ∧ r = P8 (mb g) p (q - p) := by
  obtain ⟨lf', a0, a1, a3, h⟩ := t_name0 h h0
  rw [hp] at a3
  exact oL (nam_l hq hqm hm hm9 hB h8 hs n (i := 0) a0 a1 a3 hpq h)
end Nam
