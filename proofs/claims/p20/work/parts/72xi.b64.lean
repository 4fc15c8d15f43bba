/-! sets of at most forty in 64 bits; of at most eight, seventeen in 32 -/
theorem t64 {n : Nat} (hn : n < 18446744073709551616) : (i64 (n : Int)).toBitVec.toNat = n := by
  show (BitVec.ofNat 64 (c64 (n : Int))).toNat = n
  rw [BitVec.toNat_ofNat]
  unfold c64
  omega
theorem t32 {n : Nat} (hn : n < 4294967296) : (i32 (n : Int)).toBitVec.toNat = n := by
  show (BitVec.ofNat 32 (c32 (n : Int))).toNat = n
  rw [BitVec.toNat_ofNat]
  unfold c32
  omega
theorem p62 : (2 : Nat) ^ 62 = 4611686018427387904 := by decide
theorem p30 : (2 : Nat) ^ 30 = 1073741824 := by decide
theorem lor_n {a b : Nat} (ha : a < 2 ^ 62) (hb : b < 2 ^ 62) : lor (a : Int) (b : Int) = ((a ||| b : Nat) : Int) := by
  have hc : a ||| b < 2 ^ 62 := Nat.or_lt_two_pow ha hb
  rw [p62] at ha hb hc
  have e : i64 (a : Int) ||| i64 (b : Int) = i64 ((a ||| b : Nat) : Int) := by
    apply Int64.toBitVec_inj.1
    rw [Int64.toBitVec_or]
    apply BitVec.eq_of_toNat_eq
    rw [BitVec.toNat_or, t64 (by omega), t64 (by omega), t64 (by omega)]
  unfold lor
  rw [e, i64_w, w64_id (by omega) (by omega)]
theorem lan_n {a b : Nat} (ha : a < 2 ^ 62) (hb : b < 2 ^ 62) : lan (a : Int) (b : Int) = ((a &&& b : Nat) : Int) := by
  have hc : a &&& b < 2 ^ 62 := Nat.and_lt_two_pow a hb
  rw [p62] at ha hb hc
  have e : i64 (a : Int) &&& i64 (b : Int) = i64 ((a &&& b : Nat) : Int) := by
    apply Int64.toBitVec_inj.1
    rw [Int64.toBitVec_and]
    apply BitVec.eq_of_toNat_eq
    rw [BitVec.toNat_and, t64 (by omega), t64 (by omega), t64 (by omega)]
  unfold lan
  rw [e, i64_w, w64_id (by omega) (by omega)]
theorem sm64 : ∀ s : Nat, s < 40 → ((i32 (s : Int)).toInt64 &&& 63).toBitVec.smod 64 = BitVec.ofNat 64 s := by decide +kernel
theorem lsl1 : ∀ s : Nat, s < 40 → lsl 1 (s : Int) = ((2 ^ s : Nat) : Int) := by decide +kernel
theorem lsr_n {a s : Nat} (ha : a < 2 ^ 62) (hs : s < 40) : lsr (a : Int) (s : Int) = ((a >>> s : Nat) : Int) := by
  have hc : a >>> s < 2 ^ 62 := Nat.lt_of_le_of_lt (by rw [Nat.shiftRight_eq_div_pow]; exact Nat.div_le_self _ _) ha
  rw [p62] at ha hc
  have e : i64 (a : Int) >>> ((i32 (s : Int)).toInt64 &&& 63) = i64 ((a >>> s : Nat) : Int) := by
    apply Int64.toBitVec_inj.1
    rw [Int64.toBitVec_shiftRight, sm64 s hs]
    apply BitVec.eq_of_toNat_eq
    have hm : (i64 (a : Int)).toBitVec.msb = false := by
      rw [BitVec.msb_eq_false_iff_two_mul_lt, t64 (by omega)]
      omega
    rw [BitVec.sshiftRight_eq', BitVec.sshiftRight_eq_of_msb_false hm, BitVec.toNat_ushiftRight, t64 (by omega), t64 (by omega), BitVec.toNat_ofNat, Nat.mod_eq_of_lt (by omega)]
  unfold lsr
  rw [e, i64_w]
  generalize a >>> s = x at hc ⊢
  exact w64_id (by omega) (by omega)
theorem bor_n {a b : Nat} (ha : a < 2 ^ 30) (hb : b < 2 ^ 30) : bor (a : Int) (b : Int) = ((a ||| b : Nat) : Int) := by
  have hc : a ||| b < 2 ^ 30 := Nat.or_lt_two_pow ha hb
  rw [p30] at ha hb hc
  have e : i32 (a : Int) ||| i32 (b : Int) = i32 ((a ||| b : Nat) : Int) := by
    apply Int32.toBitVec_inj.1
    rw [Int32.toBitVec_or]
    apply BitVec.eq_of_toNat_eq
    rw [BitVec.toNat_or, t32 (by omega), t32 (by omega), t32 (by omega)]
  unfold bor
  rw [e, i32_w, w32_id (by omega) (by omega)]
theorem ban_n {a b : Nat} (ha : a < 2 ^ 30) (hb : b < 2 ^ 30) : ban (a : Int) (b : Int) = ((a &&& b : Nat) : Int) := by
  have hc : a &&& b < 2 ^ 30 := Nat.and_lt_two_pow a hb
  rw [p30] at ha hb hc
  have e : i32 (a : Int) &&& i32 (b : Int) = i32 ((a &&& b : Nat) : Int) := by
    apply Int32.toBitVec_inj.1
    rw [Int32.toBitVec_and]
    apply BitVec.eq_of_toNat_eq
    rw [BitVec.toNat_and, t32 (by omega), t32 (by omega), t32 (by omega)]
  unfold ban
  rw [e, i32_w, w32_id (by omega) (by omega)]
theorem sm32 : ∀ s : Nat, s < 30 → (i32 (s : Int) &&& 31).toBitVec.smod 32 = BitVec.ofNat 32 s := by decide +kernel
theorem bsl1 : ∀ s : Nat, s < 30 → bsl 1 (s : Int) = ((2 ^ s : Nat) : Int) := by decide +kernel
theorem bsr_n {a s : Nat} (ha : a < 2 ^ 30) (hs : s < 30) : bsr (a : Int) (s : Int) = ((a >>> s : Nat) : Int) := by
  have hc : a >>> s < 2 ^ 30 := Nat.lt_of_le_of_lt (by rw [Nat.shiftRight_eq_div_pow]; exact Nat.div_le_self _ _) ha
  rw [p30] at ha hc
  have e : i32 (a : Int) >>> (i32 (s : Int) &&& 31) = i32 ((a >>> s : Nat) : Int) := by
    apply Int32.toBitVec_inj.1
    rw [Int32.toBitVec_shiftRight, sm32 s hs]
    apply BitVec.eq_of_toNat_eq
    have hm : (i32 (a : Int)).toBitVec.msb = false := by
      rw [BitVec.msb_eq_false_iff_two_mul_lt, t32 (by omega)]
      omega
    rw [BitVec.sshiftRight_eq', BitVec.sshiftRight_eq_of_msb_false hm, BitVec.toNat_ushiftRight, t32 (by omega), t32 (by omega), BitVec.toNat_ofNat, Nat.mod_eq_of_lt (by omega)]
  unfold bsr
  rw [e, i32_w]
  generalize a >>> s = x at hc ⊢
  exact w32_id (by omega) (by omega)
theorem tbit1 (a s : Nat) : (a >>> s) &&& 1 = (a.testBit s).toNat := by
  rw [Nat.testBit_eq_decide_div_mod_eq, Nat.shiftRight_eq_div_pow, Nat.and_one_is_mod]
  rcases Nat.mod_two_eq_zero_or_one (a / 2 ^ s) with h | h <;> rw [h] <;> rfl
theorem lbit {a s : Nat} (ha : a < 2 ^ 62) (hs : s < 40) : csgn (lan (lsr (a : Int) (s : Int)) 1 - 0) ≠ 0 ↔ a.testBit s = true := by
  have h1 : a >>> s < 2 ^ 62 := Nat.lt_of_le_of_lt (by rw [Nat.shiftRight_eq_div_pow]; exact Nat.div_le_self _ _) ha
  rw [lsr_n ha hs, show (1 : Int) = ((1 : Nat) : Int) from rfl, lan_n h1 (by decide), tbit1, Ne, csgn_z]
  cases a.testBit s with
  | true => exact ⟨fun _ => rfl, fun _ h => by have h : ((1 : Nat) : Int) - 0 = 0 := h; omega⟩
  | false => exact ⟨fun h => absurd (show ((0 : Nat) : Int) - 0 = 0 by omega) h, fun h => by cases h⟩
theorem bbit {a s : Nat} (ha : a < 2 ^ 30) (hs : s < 30) : ban (bsr (a : Int) (s : Int)) 1 = ((a.testBit s).toNat : Int) := by
  have h1 : a >>> s < 2 ^ 30 := Nat.lt_of_le_of_lt (by rw [Nat.shiftRight_eq_div_pow]; exact Nat.div_le_self _ _) ha
  rw [bsr_n ha hs, show (1 : Int) = ((1 : Nat) : Int) from rfl, ban_n h1 (by decide), tbit1]
theorem tbor (m s v : Nat) : (m ||| 2 ^ s).testBit v = (m.testBit v || decide (s = v)) := by rw [Nat.testBit_or, Nat.testBit_two_pow]
theorem tblt {m s b : Nat} (hm : m < 2 ^ b) (hs : s < b) : m ||| 2 ^ s < 2 ^ b := Nat.or_lt_two_pow hm (Nat.pow_lt_pow_right (by decide) hs)
/-- hz5 bits of them -/
theorem l31 {m t : Nat} (hm : m < 2 ^ 62) (ht : t < 8) : lan (lsr (m : Int) (5 * (t : Int))) 31 = (((m >>> (5 * t)) % 32 : Nat) : Int) := by
  have h1 : m >>> (5 * t) < 2 ^ 62 := Nat.lt_of_le_of_lt (by rw [Nat.shiftRight_eq_div_pow]; exact Nat.div_le_self _ _) hm
  have e : (5 * (t : Int)) = ((5 * t : Nat) : Int) := by omega
  rw [e, lsr_n hm (by omega), show (31 : Int) = ((31 : Nat) : Int) from rfl, lan_n h1 (by decide), show (31 : Nat) = 2 ^ 5 - 1 from rfl, Nat.and_two_pow_sub_one_eq_mod]
theorem t31 {m t a : Nat} (ha : a < 5) : ((m >>> (5 * t)) % 32).testBit a = m.testBit (a + 5 * t) := by
  rw [show (32 : Nat) = 2 ^ 5 from rfl, Nat.testBit_mod_two_pow, Nat.testBit_shiftRight, Nat.add_comm]
  simp [ha]
theorem two31 : ∀ x : Nat, x < 32 → ∀ q : Nat, q < 5 → ((x ≠ 0 ∧ x ≠ 2 ^ q) ↔ ∃ a : Nat, a < 5 ∧ a ≠ q ∧ x.testBit a = true) := by decide +kernel
