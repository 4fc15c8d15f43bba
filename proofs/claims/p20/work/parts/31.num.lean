/-! Conditions, and what the machine's arithmetic does to numbers in their range -/
noncomputable def aK (k : aenv → List ae → Bool) (env : aenv) (fx : List ae) : Bool := aprp fx env (fun env' => k env' fx)
noncomputable def acnd (o : Jvm.ClassFile.Cond) (env : aenv) (fx : List ae) (e : ae) (k : aenv → List ae → Bool) : Bool :=
  match e.2 with
  | [] => cond (crel o e.1 0) (k env fx) true
  | _ => match o with
    | .le => aas env fx e (aK k)
    | .lt => efrc (eadc e 1) (fun x => aas env fx x (aK k))
    | .ge => efrc (escl e (-1)) (fun x => aas env fx x (aK k))
    | .gt => efrc (eadd (1, []) e (-1)) (fun x => aas env fx x (aK k))
    | .eq => aas env fx e (fun env1 fx1 => efrc (escl e (-1)) (fun x => aas env1 fx1 x (aK k)))
    | .ne => match (enor env e).2 with
      | [] => cond (zeq (enor env e).1 0) true (k env fx)
      | _ => efrc (escl e (-1)) (fun x => cond (elef env fx 2 x) (efrc (eadc x 1) (fun z => aas env fx z (aK k)))
          (cond (elef env fx 2 e) (efrc (eadc e 1) (fun z => aas env fx z (aK k))) (k env fx)))
theorem aK_ok {P : (Nat → Int) → Prop} (hP : ∃ ρ, P ρ) {k : aenv → List ae → Bool} {env : aenv} {fx : List ae} (h : aK k env fx = true) (hR : ∀ ρ, P ρ → envR env ρ ∧ fxR fx ρ) : ∃ env' fx', k env' fx' = true ∧ ∀ ρ, P ρ → envR env' ρ ∧ fxR fx' ρ := by
  obtain ⟨env', h1, h2⟩ := aprp_ok hP _ _ _ h hR
  exact ⟨env', fx, h1, fun ρ p => ⟨h2 ρ p, (hR ρ p).2⟩⟩
theorem aas_K {P : (Nat → Int) → Prop} (hP : ∃ ρ, P ρ) {env : aenv} {fx : List ae} {e : ae} {k : aenv → List ae → Bool} (h : aas env fx e (aK k) = true) (hR : ∀ ρ, P ρ → envR env ρ ∧ fxR fx ρ ∧ ev ρ e ≤ 0) :
    ∃ env' fx', k env' fx' = true ∧ ∀ ρ, P ρ → envR env' ρ ∧ fxR fx' ρ := by
  obtain ⟨env', fx', h1, h2⟩ := aas_ok hP h hR
  exact aK_ok hP h1 h2
theorem acnd_ok {P : (Nat → Int) → Prop} (hP : ∃ ρ, P ρ) {o : Jvm.ClassFile.Cond} {env : aenv} {fx : List ae} {e : ae} {k : aenv → List ae → Bool} (h : acnd o env fx e k = true) (hR : ∀ ρ, P ρ → envR env ρ ∧ fxR fx ρ ∧ crel o (ev ρ e) 0 = true) :
    ∃ env' fx', k env' fx' = true ∧ ∀ ρ, P ρ → envR env' ρ ∧ fxR fx' ρ := by
  have hR2 : ∀ ρ, P ρ → envR env ρ ∧ fxR fx ρ := fun ρ p => ⟨(hR ρ p).1, (hR ρ p).2.1⟩
  unfold acnd at h
  split at h
  · rename_i hn
    obtain ⟨ρ0, p0⟩ := hP
    have e0 : ev ρ0 e = e.1 := by unfold ev; rw [hn]; show e.1 + 0 = e.1; omega
    have := (hR ρ0 p0).2.2
    rw [e0] at this
    rw [this] at h
    exact ⟨env, fx, h, hR2⟩
  · split at h
    · refine aas_K hP h (fun ρ p => ⟨(hR ρ p).1, (hR ρ p).2.1, ?_⟩)
      exact of_decide_eq_true (hR ρ p).2.2
    · rw [efrc_eq] at h
      refine aas_K hP h (fun ρ p => ⟨(hR ρ p).1, (hR ρ p).2.1, ?_⟩)
      have : ev ρ e < 0 := of_decide_eq_true (hR ρ p).2.2
      rw [eadc_ev]; omega
    · rw [efrc_eq] at h
      refine aas_K hP h (fun ρ p => ⟨(hR ρ p).1, (hR ρ p).2.1, ?_⟩)
      have : 0 ≤ ev ρ e := of_decide_eq_true (hR ρ p).2.2
      rw [escl_ev]; omega
    · rw [efrc_eq] at h
      refine aas_K hP h (fun ρ p => ⟨(hR ρ p).1, (hR ρ p).2.1, ?_⟩)
      have : 0 < ev ρ e := of_decide_eq_true (hR ρ p).2.2
      rw [eadd_ev]
      have e1 : ev ρ ((1, []) : ae) = 1 := ecst_ev ρ 1
      rw [e1]; omega
    · have hz : ∀ ρ, P ρ → ev ρ e = 0 := fun ρ p => of_decide_eq_true (hR ρ p).2.2
      obtain ⟨env1, fx1, h1, h2⟩ := aas_ok hP h (fun ρ p => ⟨(hR ρ p).1, (hR ρ p).2.1, by rw [hz ρ p]; exact Int.le_refl _⟩)
      rw [efrc_eq] at h1
      exact aas_K hP h1 (fun ρ p => ⟨(h2 ρ p).1, (h2 ρ p).2, by rw [escl_ev, hz ρ p]; omega⟩)
    · have hz : ∀ ρ, P ρ → ev ρ e ≠ 0 := fun ρ p => of_decide_eq_true (hR ρ p).2.2
      split at h
      · rename_i hn
        cases hc : zeq (enor env e).1 0 with
        | false => rw [hc] at h; exact ⟨env, fx, h, hR2⟩
        | true =>
          obtain ⟨ρ0, p0⟩ := hP
          have e1 := enor_ok (hR ρ0 p0).1 e
          have e2 : ev ρ0 (enor env e) = (enor env e).1 := by unfold ev; rw [hn]; show (enor env e).1 + 0 = _; omega
          have e3 := zeq_iff.mp hc
          have := hz ρ0 p0
          omega
      · rw [efrc_eq] at h
        cases h1 : elef env fx 2 (escl e (-1)) with
        | true =>
          rw [h1] at h
          simp only [cond_true] at h
          rw [efrc_eq] at h
          refine aas_K hP h (fun ρ p => ⟨(hR ρ p).1, (hR ρ p).2.1, ?_⟩)
          have a1 := elef_ok (hR ρ p).1 (hR ρ p).2.1 2 _ h1
          rw [escl_ev] at a1
          have := hz ρ p
          rw [eadc_ev, escl_ev]; omega
        | false =>
          rw [h1] at h
          simp only [cond_false] at h
          cases h2 : elef env fx 2 e with
          | true =>
            rw [h2] at h
            simp only [cond_true] at h
            rw [efrc_eq] at h
            refine aas_K hP h (fun ρ p => ⟨(hR ρ p).1, (hR ρ p).2.1, ?_⟩)
            have a1 := elef_ok (hR ρ p).1 (hR ρ p).2.1 2 _ h2
            have := hz ρ p
            rw [eadc_ev]; omega
          | false => rw [h2] at h; exact ⟨env, fx, h, hR2⟩
/-! arithmetic -/
theorem nI_em {a b : Nat} (h : a % 4294967296 = b % 4294967296) : nI a = nI b := by rw [← x32 a, h, x32]
theorem lN_em {a b : Nat} (h : a % 18446744073709551616 = b % 18446744073709551616) : lN a = lN b := by rw [← x64 a, h, x64]
theorem i32_add (a b : Int) : i32 a + i32 b = i32 (a + b) := by
  unfold i32
  rw [nI_add]
  apply nI_em
  unfold c32
  omega
theorem i32_sub (a b : Int) : i32 a - i32 b = i32 (a - b) := by
  unfold i32
  rw [← nI_sub]
  apply nI_em
  unfold c32
  omega
theorem c32_mod (a : Int) : ((c32 a : Nat) : Int) = a % 4294967296 := by unfold c32; omega
theorem c64_mod (a : Int) : ((c64 a : Nat) : Int) = a % 18446744073709551616 := by unfold c64; omega
theorem i32_mul (a b : Int) : i32 a * i32 b = i32 (a * b) := by
  unfold i32
  rw [pk_mul]
  apply nI_em
  apply Int.ofNat.inj
  show (((c32 a * c32 b % 4294967296 : Nat)) : Int) = ((c32 (a * b) % 4294967296 : Nat) : Int)
  rw [Int.natCast_emod, Int.natCast_emod, Int.natCast_mul, c32_mod, c32_mod, c32_mod]
  show a % 4294967296 * (b % 4294967296) % 4294967296 = a * b % 4294967296 % 4294967296
  rw [← Int.mul_emod, Int.emod_emod_of_dvd _ (Int.dvd_refl _)]
theorem i32_neg (a : Int) : -i32 a = i32 (-a) := by
  have h := i32_sub 0 a
  rw [show i32 0 = 0 from rfl] at h
  rw [show (0 : Int32) - i32 a = -i32 a from Int32.zero_sub _] at h
  rw [h]
  congr 1
  omega
theorem lN_add2 (a b : Nat) : lN a + lN b = lN (a + b) := (Int64.ofNat_add a b).symm
theorem lN_mul2 (a b : Nat) : lN a * lN b = lN (a * b) := (Int64.ofNat_mul a b).symm
theorem i64_add (a b : Int) : i64 a + i64 b = i64 (a + b) := by
  unfold i64
  rw [lN_add2]
  apply lN_em
  unfold c64
  omega
theorem i64_sub (a b : Int) : i64 a - i64 b = i64 (a - b) := by
  have h : i64 (a - b) + i64 b = i64 a := by
    rw [i64_add]; congr 1; omega
  rw [← h, Int64.add_sub_cancel]
theorem i64_mul (a b : Int) : i64 a * i64 b = i64 (a * b) := by
  unfold i64
  rw [lN_mul2]
  apply lN_em
  apply Int.ofNat.inj
  show (((c64 a * c64 b % 18446744073709551616 : Nat)) : Int) = ((c64 (a * b) % 18446744073709551616 : Nat) : Int)
  rw [Int.natCast_emod, Int.natCast_emod, Int.natCast_mul, c64_mod, c64_mod, c64_mod]
  show a % 18446744073709551616 * (b % 18446744073709551616) % 18446744073709551616 = a * b % 18446744073709551616 % 18446744073709551616
  rw [← Int.mul_emod, Int.emod_emod_of_dvd _ (Int.dvd_refl _)]
theorem i64_i32 {a : Int} (h : cI a) : (i64 a).toInt32.toInt = a := by
  have e : (i64 a).toInt32 = i32 a := by
    unfold i64 i32
    rw [lN_l2i]
    apply nI_em
    unfold c64 c32
    unfold cI at h
    omega
  rw [e, i32_int h]
theorem i2b_in (x : Int32) : -128 ≤ x.toInt8.toInt32.toInt ∧ x.toInt8.toInt32.toInt ≤ 127 := by
  generalize x.toInt8 = w
  have h1 := w.toBitVec.toInt_lt
  have h2 := w.toBitVec.le_toInt
  have e : w.toInt32.toInt = w.toBitVec.toInt := by rw [Int8.toInt_toInt32]; rfl
  rw [e]
  generalize w.toBitVec.toInt = z at h1 h2
  constructor <;> omega
theorem i2b_id {a : Int} (h1 : -128 ≤ a) (h2 : a ≤ 127) : (i32 a).toInt8.toInt32.toInt = a := by
  rw [Int8.toInt_toInt32]
  have e : (i32 a).toInt8.toInt = (i32 a).toInt.bmod (2 ^ 8) := Int32.toInt_toInt8 (i32 a)
  rw [e, i32_int (by unfold cI; omega)]
  rw [Int.bmod_def]
  split <;> omega
theorem i2s_in (x : Int32) : -32768 ≤ x.toInt16.toInt32.toInt ∧ x.toInt16.toInt32.toInt ≤ 32767 := by
  generalize x.toInt16 = w
  have h1 := w.toBitVec.toInt_lt
  have h2 := w.toBitVec.le_toInt
  have e : w.toInt32.toInt = w.toBitVec.toInt := by rw [Int16.toInt_toInt32]; rfl
  rw [e]
  generalize w.toBitVec.toInt = z at h1 h2
  constructor <;> omega
theorem i2s_id {a : Int} (h1 : -32768 ≤ a) (h2 : a ≤ 32767) : (i32 a).toInt16.toInt32.toInt = a := by
  rw [Int16.toInt_toInt32]
  have e : (i32 a).toInt16.toInt = (i32 a).toInt.bmod (2 ^ 16) := Int32.toInt_toInt16 (i32 a)
  rw [e, i32_int (by unfold cI; omega)]
  rw [Int.bmod_def]
  split <;> omega
theorem i2c_int (a : Nat) : (nI (a % 65536)).toInt = ((a % 65536 : Nat) : Int) := nI_toInt (by omega)
theorem i2c_in (x : Int32) : 0 ≤ ((x.toUInt32 % 65536).toInt32).toInt ∧ ((x.toUInt32 % 65536).toInt32).toInt ≤ 65535 := by
  have h := nI_c65 (xnu x)
  rw [nI_xnu] at h
  rw [h, i2c_int]
  omega
theorem i2c_id {a : Int} (h1 : 0 ≤ a) (h2 : a ≤ 65535) : (((i32 a).toUInt32 % 65536).toInt32).toInt = a := by
  unfold i32
  rw [nI_c65, i2c_int]
  unfold c32
  omega
theorem toInt_xnu {Z : Int32} (h : xnu Z < 2147483648) : Z.toInt = (xnu Z : Int) := by
  have := nI_toInt (n := xnu Z) h
  rw [nI_xnu] at this
  exact this
theorem xnu_i32 {y : Int} (h : cI y) (h0 : 0 ≤ y) : xnu (i32 y) = y.toNat := by
  have e : c32 y = y.toNat := c32_nat h0 (by unfold cI at h; omega)
  unfold i32
  rw [e]
  show (BitVec.ofNat 32 _).toNat = _
  rw [BitVec.toNat_ofNat]
  apply Nat.mod_eq_of_lt
  unfold cI at h
  omega
theorem xnu_and (X Y : Int32) : xnu (X &&& Y) = xnu X &&& xnu Y := by
  unfold xnu
  rw [Int32.toBitVec_and, BitVec.toNat_and]
theorem xnu_or (X Y : Int32) : xnu (X ||| Y) = xnu X ||| xnu Y := by
  unfold xnu
  rw [Int32.toBitVec_or, BitVec.toNat_or]
theorem iand_r (X : Int32) {y : Int} (h : cI y) (h0 : 0 ≤ y) : 0 ≤ (X &&& i32 y).toInt ∧ (X &&& i32 y).toInt ≤ y := by
  have e1 := xnu_i32 h h0
  have e2 : xnu (X &&& i32 y) ≤ y.toNat := by
    rw [xnu_and, e1]
    exact Nat.and_le_right
  unfold cI at h
  rw [toInt_xnu (by omega)]
  omega
theorem iand_l (X : Int32) {y : Int} (h : cI y) (h0 : 0 ≤ y) : 0 ≤ (i32 y &&& X).toInt ∧ (i32 y &&& X).toInt ≤ y := by
  have e1 := xnu_i32 h h0
  have e2 : xnu (i32 y &&& X) ≤ y.toNat := by
    rw [xnu_and, e1]
    exact Nat.and_le_left
  unfold cI at h
  rw [toInt_xnu (by omega)]
  omega
theorem ior_in {x y : Int} (hx : cI x) (hy : cI y) (x0 : 0 ≤ x) (y0 : 0 ≤ y) {k : Nat} (h1 : x.toNat < 2 ^ k) (h2 : y.toNat < 2 ^ k) (hk : k ≤ 31) : 0 ≤ (i32 x ||| i32 y).toInt ∧ (i32 x ||| i32 y).toInt ≤ (2 ^ k - 1 : Int) := by
  have e : xnu (i32 x ||| i32 y) < 2 ^ k := by
    rw [xnu_or, xnu_i32 hx x0, xnu_i32 hy y0]
    exact Nat.or_lt_two_pow h1 h2
  have hp : 2 ^ k ≤ 2147483648 := Nat.le_trans (Nat.pow_le_pow_right (by decide) hk) (by decide)
  rw [toInt_xnu (by omega)]
  refine ⟨Int.natCast_nonneg _, ?_⟩
  have e2 : ((2 ^ k : Nat) : Int) = (2 ^ k : Int) := by rw [Int.natCast_pow]; rfl
  rw [← e2]
  omega
theorem i32s_l : ∀ n, n < 32 → ((nI n &&& 31).toBitVec.smod 32).toNat = n := by decide +kernel
theorem ishl_in {x s : Int} (x0 : 0 ≤ x) (s0 : 0 ≤ s) (s1 : s ≤ 30) (hf : x * 2 ^ s.toNat < 2147483648) : (i32 x <<< (i32 s &&& 31)).toInt = x * 2 ^ s.toNat := by
  have hx : x < 2147483648 := by
    have : 0 < (2 : Int) ^ s.toNat := Int.pow_pos (by decide)
    have h2 : x * 1 ≤ x * 2 ^ s.toNat := Int.mul_le_mul_of_nonneg_left (by omega) x0
    omega
  have e1 : c32 x = x.toNat := c32_nat x0 (by omega)
  have e2 : c32 s = s.toNat := c32_nat s0 (by omega)
  unfold i32
  rw [e1, e2]
  have hn : ((x.toNat * 2 ^ s.toNat : Nat) : Int) = x * 2 ^ s.toNat := by
    rw [Int.natCast_mul, Int.natCast_pow, Int.toNat_of_nonneg x0]; rfl
  rw [pk_shlN (n := x.toNat) (nI s.toNat &&& 31) s.toNat (i32s_l _ (by omega)) (by omega), nI_toInt (by omega), hn]
theorem ishr_in (X s : Int32) : (0 ≤ X.toInt → 0 ≤ (X >>> s).toInt ∧ (X >>> s).toInt ≤ X.toInt) ∧ (X.toInt ≤ 0 → X.toInt ≤ (X >>> s).toInt ∧ (X >>> s).toInt ≤ 0) ∧ (X.toInt < 0 → (X >>> s).toInt < 0) := by
  rw [pk_shr X s _ rfl]
  generalize (s.toBitVec.smod 32).toNat = k
  generalize X.toInt = x
  rw [Int.shiftRight_eq_div_pow]
  have hp : 0 < ((2 ^ k : Nat) : Int) := by
    have := Nat.two_pow_pos k
    omega
  generalize ((2 ^ k : Nat) : Int) = p at hp
  refine ⟨fun h => ⟨Int.ediv_nonneg h (by omega), Int.ediv_le_self p h⟩, fun h => ⟨?_, ?_⟩, fun h => Int.ediv_neg_of_neg_of_pos h hp⟩
  · rw [Int.le_ediv_iff_mul_le hp]
    have := Int.mul_le_mul_of_nonpos_left (a := x) h (show (1 : Int) ≤ p by omega)
    omega
  · have : x / p ≤ 0 / p := Int.ediv_le_ediv hp h
    rw [Int.zero_ediv] at this
    exact this
theorem i32_bmod (z : Int) : (i32 z).toInt = z.bmod 4294967296 := by
  unfold i32
  rw [nI_int]
  unfold c32
  rw [Int.bmod_def]
  split <;> split <;> omega
theorem i64_bmod (z : Int) : (i64 z).toInt = z.bmod 18446744073709551616 := by
  unfold i64
  rw [lN_int]
  unfold c64
  rw [Int.bmod_def]
  split <;> split <;> omega
theorem i32_div {a b : Int} (ha : cI a) (hb : cI b) : i32 a / i32 b = i32 (a.tdiv b) := by
  apply Int32.toInt_inj.mp
  rw [i32_bmod, Int32.toInt_div, i32_int ha, i32_int hb]
theorem i64_div {a b : Int} (ha : cL a) (hb : cL b) : i64 a / i64 b = i64 (a.tdiv b) := by
  apply Int64.toInt_inj.mp
  rw [i64_bmod, Int64.toInt_div, i64_int ha, i64_int hb]
theorem tmod_in (a : Int) {b : Int} (hb : b ≠ 0) : (0 ≤ a → 0 ≤ a.tmod b ∧ a.tmod b ≤ a) ∧ (a ≤ 0 → a ≤ a.tmod b ∧ a.tmod b ≤ 0) ∧ (0 < b → -b < a.tmod b ∧ a.tmod b < b) ∧ (b < 0 → b < a.tmod b ∧ a.tmod b < -b) := by
  have pos : ∀ x : Int, 0 ≤ x → 0 ≤ x.tmod b ∧ x.tmod b ≤ x ∧ (0 < b → x.tmod b < b) ∧ (b < 0 → x.tmod b < -b) := by
    intro x hx
    rw [Int.tmod_eq_emod_of_nonneg hx]
    refine ⟨Int.emod_nonneg x hb, ?_, fun h => Int.emod_lt_of_pos x h, fun h => ?_⟩
    · by_cases h : 0 < b
      · have := Int.mul_ediv_add_emod x b
        have h2 : 0 ≤ b * (x / b) := Int.mul_nonneg (by omega) (Int.ediv_nonneg hx (by omega))
        omega
      · have h1 : 0 < -b := by omega
        have := Int.mul_ediv_add_emod x (-b)
        have h2 : 0 ≤ (-b) * (x / (-b)) := Int.mul_nonneg (by omega) (Int.ediv_nonneg hx (by omega))
        rw [Int.emod_neg] at this
        omega
    · have := Int.emod_lt_of_pos x (show 0 < -b by omega)
      rw [Int.emod_neg] at this
      exact this
  by_cases h : 0 ≤ a
  · obtain ⟨h1, h2, h3, h4⟩ := pos a h
    refine ⟨fun _ => ⟨h1, h2⟩, fun h5 => ⟨by omega, by omega⟩, fun q => ⟨by omega, h3 q⟩, fun q => ⟨by omega, h4 q⟩⟩
  · obtain ⟨h1, h2, h3, h4⟩ := pos (-a) (by omega)
    rw [Int.neg_tmod] at h1 h2 h3 h4
    refine ⟨fun q => absurd q h, fun _ => ⟨by omega, by omega⟩, fun q => ?_, fun q => ?_⟩
    · have := h3 q; constructor <;> omega
    · have := h4 q; constructor <;> omega
theorem i32_rem {a b : Int} (ha : cI a) (hb : cI b) (h0 : b ≠ 0) : (i32 a - i32 a / i32 b * i32 b).toInt = a.tmod b := by
  rw [i32_div ha hb, i32_mul, i32_sub]
  have e : a - a.tdiv b * b = a.tmod b := by
    have := Int.mul_tdiv_add_tmod a b
    rw [Int.mul_comm] at this
    omega
  rw [e]
  apply i32_int
  obtain ⟨h1, h2, -, -⟩ := tmod_in a h0
  unfold cI at *
  by_cases h : 0 ≤ a
  · have := h1 h; omega
  · have := h2 (by omega); omega
theorem i64_rem {a b : Int} (ha : cL a) (hb : cL b) (h0 : b ≠ 0) : (i64 a - i64 a / i64 b * i64 b).toInt = a.tmod b := by
  rw [i64_div ha hb, i64_mul, i64_sub]
  have e : a - a.tdiv b * b = a.tmod b := by
    have := Int.mul_tdiv_add_tmod a b
    rw [Int.mul_comm] at this
    omega
  rw [e]
  apply i64_int
  obtain ⟨h1, h2, -, -⟩ := tmod_in a h0
  unfold cL at *
  by_cases h : 0 ≤ a
  · have := h1 h; omega
  · have := h2 (by omega); omega
theorem tdiv_in {a b al ah bl bh : Int} (h1 : al ≤ a) (h2 : a ≤ ah) (h3 : bl ≤ b) (h4 : b ≤ bh) (a0 : 0 ≤ al) (b0 : 0 < bl) : Int.ediv al bh ≤ a.tdiv b ∧ a.tdiv b ≤ Int.ediv ah bl := by
  rw [Int.tdiv_eq_ediv_of_nonneg (show 0 ≤ a by omega)]
  show al / bh ≤ a / b ∧ a / b ≤ ah / bl
  constructor
  · rw [Int.le_ediv_iff_mul_le (show 0 < b by omega)]
    have e1 : al / bh * b ≤ al / bh * bh := Int.mul_le_mul_of_nonneg_left h4 (Int.ediv_nonneg a0 (by omega))
    have e2 : al / bh * bh ≤ al := Int.ediv_mul_le al (by omega)
    omega
  · rw [Int.le_ediv_iff_mul_le b0]
    have e1 : a / b * bl ≤ a / b * b := Int.mul_le_mul_of_nonneg_left h3 (Int.ediv_nonneg (by omega) (by omega))
    have e2 : a / b * b ≤ a := Int.ediv_mul_le a (by omega)
    omega
/-- a product's bounds -/
def zmul4 (a b c d : Int) : Int × Int := (zmn (zmn (Int.mul a c) (Int.mul a d)) (zmn (Int.mul b c) (Int.mul b d)), zmx (zmx (Int.mul a c) (Int.mul a d)) (zmx (Int.mul b c) (Int.mul b d)))
theorem zmul_1 {x y c d : Int} (h3 : c ≤ y) (h4 : y ≤ d) : zmn (x * c) (x * d) ≤ x * y ∧ x * y ≤ zmx (x * c) (x * d) := by
  by_cases h : 0 ≤ x
  · have e1 := Int.mul_le_mul_of_nonneg_left h3 h
    have e2 := Int.mul_le_mul_of_nonneg_left h4 h
    exact ⟨Int.le_trans (zmn_l _ _) e1, Int.le_trans e2 (zmx_r _ _)⟩
  · have e1 := Int.mul_le_mul_of_nonpos_left (a := x) (by omega) h3
    have e2 := Int.mul_le_mul_of_nonpos_left (a := x) (by omega) h4
    exact ⟨Int.le_trans (zmn_r _ _) e2, Int.le_trans e1 (zmx_l _ _)⟩
theorem zmul4_ok {x y a b c d : Int} (h1 : a ≤ x) (h2 : x ≤ b) (h3 : c ≤ y) (h4 : y ≤ d) : (zmul4 a b c d).1 ≤ x * y ∧ x * y ≤ (zmul4 a b c d).2 := by
  have k1 := zmul_1 (x := y) h1 h2
  have k2 := zmul_1 (x := a) h3 h4
  have k3 := zmul_1 (x := b) h3 h4
  rw [Int.mul_comm y a, Int.mul_comm y b, Int.mul_comm y x] at k1
  constructor
  · refine Int.le_trans ?_ k1.1
    exact zmn_of (Int.le_trans (zmn_l _ _) k2.1) (Int.le_trans (zmn_r _ _) k3.1)
  · refine Int.le_trans k1.2 ?_
    exact zmx_of (Int.le_trans k2.2 (zmx_l _ _)) (Int.le_trans k3.2 (zmx_r _ _))
