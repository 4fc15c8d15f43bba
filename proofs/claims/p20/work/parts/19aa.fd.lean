/-! fast decoding (printed by wip/tools/mkfd2.py): an instruction by its bytes, packed in one number a method -/
theorem xdu1 {code : ByteArray} {pc k : Nat} (h : pc < code.size) (e : code[pc].toNat = k) {α : Type} (f : Nat → Decoder α) : (Reader.u1 >>= f) code pc = f k code (pc + 1) := by
  have hu : (Reader.u1 : Decoder Nat) code pc = .ok (k, pc + 1) := by
    show (if h : pc < code.size then _ else _ : Decoder Nat) code pc = _
    rw [dif_pos h, ← e]
    rfl
  have hb : (Reader.u1 >>= f) code pc = Except.bind ((Reader.u1 : Decoder Nat) code pc) (fun p => f p.1 code p.2) := rfl
  rw [hb, hu]
  rfl
theorem xdcb {code : ByteArray} {pc n : Nat} {i : Instr} (h : (Decoder.instr pc) code pc = .ok (i, n)) : decode code pc = .ok (i, n - pc) := by
  have hb : decode code pc = Except.bind ((Decoder.instr pc) code pc) (fun p => Except.ok (p.1, p.2 - pc)) := rfl
  rw [hb, h]
  rfl
noncomputable def xdpc (l : List UInt8) : Nat → Nat → Bool :=
  List.rec (motive := fun _ => Nat → Nat → Bool) (fun N n => Nat.beq N 0 && Nat.beq n 0) (fun b _ r N n => Nat.beq b.toNat (Nat.mod N 256) && (Nat.ble 1 n && r (Nat.div N 256) (Nat.sub n 1))) l
theorem xdpc_ok (l : List UInt8) : ∀ (N n : Nat), xdpc l N n = true → l.length = n ∧ ∀ (i : Nat) (h : i < l.length), (l[i]).toNat = N / 256 ^ i % 256 := by
  induction l with
  | nil =>
    intro N n h
    have h : (Nat.beq N 0 && Nat.beq n 0) = true := h
    exact ⟨(xeqb (xand h).2).symm, fun i hi => absurd hi (Nat.not_lt_zero i)⟩
  | cons b l ih =>
    intro N n h
    have h : (Nat.beq b.toNat (Nat.mod N 256) && (Nat.ble 1 n && xdpc l (Nat.div N 256) (Nat.sub n 1))) = true := h
    obtain ⟨h1, h2⟩ := xand h
    obtain ⟨h3, h4⟩ := xand h2
    obtain ⟨e1, e2⟩ := ih _ _ h4
    have hb : b.toNat = N % 256 := xeqb h1
    have hn : 1 ≤ n := xleb h3
    have e1' : l.length = n - 1 := e1
    refine ⟨?_, fun i hi => ?_⟩
    · rw [List.length_cons, e1']
      omega
    · cases i with
      | zero =>
        show b.toNat = N / 256 ^ 0 % 256
        rw [Nat.pow_zero, Nat.div_one]
        exact hb
      | succ i =>
        have hl : i < l.length := Nat.lt_of_succ_lt_succ hi
        show (l[i]).toNat = N / 256 ^ (i + 1) % 256
        rw [Nat.pow_succ', ← Nat.div_div_eq_div_mul]
        exact e2 i hl
noncomputable def xdbg (N n i : Nat) : Nat := cond (Nat.blt i n) (Nat.mod (Nat.div N (Nat.pow 256 i)) 256) 256
theorem xdbg_ok {code : ByteArray} {N n i k : Nat} (H : xdpc code.data.toList N n = true) (h : xdbg N n i = k) (hk : k < 256) : ∃ h : i < code.size, code[i].toNat = k := by
  obtain ⟨a⟩ := code
  obtain ⟨l⟩ := a
  obtain ⟨e1, e2⟩ := xdpc_ok l N n H
  unfold xdbg at h
  cases hb : Nat.blt i n with
  | false =>
    rw [hb] at h
    have h : 256 = k := h
    omega
  | true =>
    rw [hb] at h
    have h : N / 256 ^ i % 256 = k := h
    have hi : i < l.length := by rw [e1]; exact xltb hb
    exact ⟨hi, (e2 i hi).trans h⟩
theorem xdop {code : ByteArray} {N n pc k : Nat} (H : xdpc code.data.toList N n = true) (h : xdbg N n pc = k) (hk : k < 256) {α : Type} (f : Nat → Decoder α) : (Reader.u1 >>= f) code pc = f k code (pc + 1) := by
  obtain ⟨q, e⟩ := xdbg_ok H h hk
  exact xdu1 q e f
theorem xdu2 {code : ByteArray} {N n pc : Nat} (H : xdpc code.data.toList N n = true) (h1 : xdbg N n pc < 256) (h2 : xdbg N n (pc + 1) < 256) (f : Nat → Instr) : ((Reader.u2 >>= fun x => (pure (f x) : Decoder Instr)) : Decoder Instr) code pc = .ok (f (xdbg N n pc * 256 + xdbg N n (pc + 1)), pc + 2) := by
  have hu : (Reader.u2 : Decoder Nat) code pc = .ok (xdbg N n pc * 256 + xdbg N n (pc + 1), pc + 2) := (xdop H rfl h1 _).trans ((xdop (pc := pc + 1) H rfl h2 _).trans rfl)
  have hb : ((Reader.u2 >>= fun x => (pure (f x) : Decoder Instr)) : Decoder Instr) code pc = Except.bind ((Reader.u2 : Decoder Nat) code pc) (fun p => .ok (f p.1, p.2)) := rfl
  rw [hb, hu]
  rfl
theorem xds2 {code : ByteArray} {N n pc : Nat} (H : xdpc code.data.toList N n = true) (h1 : xdbg N n pc < 256) (h2 : xdbg N n (pc + 1) < 256) (f : Int → Instr) : ((Reader.s2 >>= fun x => (pure (f x) : Decoder Instr)) : Decoder Instr) code pc = .ok (f (Reader.signed 16 (xdbg N n pc * 256 + xdbg N n (pc + 1))), pc + 2) := by
  have hu : (Reader.u2 : Decoder Nat) code pc = .ok (xdbg N n pc * 256 + xdbg N n (pc + 1), pc + 2) := (xdop H rfl h1 _).trans ((xdop (pc := pc + 1) H rfl h2 _).trans rfl)
  have hm : (Reader.s2 : Decoder Int) code pc = Except.bind ((Reader.u2 : Decoder Nat) code pc) (fun p => .ok (Reader.signed 16 p.1, p.2)) := rfl
  have hb : ((Reader.s2 >>= fun x => (pure (f x) : Decoder Instr)) : Decoder Instr) code pc = Except.bind ((Reader.s2 : Decoder Int) code pc) (fun p => .ok (f p.1, p.2)) := rfl
  rw [hb, hm, hu]
  rfl
theorem xds1 {code : ByteArray} {N n pc : Nat} (H : xdpc code.data.toList N n = true) (h1 : xdbg N n pc < 256) (f : Int → Instr) : ((Reader.s1 >>= fun x => (pure (f x) : Decoder Instr)) : Decoder Instr) code pc = .ok (f (Reader.signed 8 (xdbg N n pc)), pc + 1) := by
  have hu : (Reader.u1 : Decoder Nat) code pc = .ok (xdbg N n pc, pc + 1) := by
    have hu1 : (Reader.u1 >>= fun x => (pure x : Decoder Nat)) code pc = .ok (xdbg N n pc, pc + 1) := (xdop H rfl h1 _).trans rfl
    have hu2 : (Reader.u1 >>= fun x => (pure x : Decoder Nat)) code pc = Except.bind ((Reader.u1 : Decoder Nat) code pc) (fun p => .ok (p.1, p.2)) := rfl
    rw [hu2] at hu1
    cases hq : (Reader.u1 : Decoder Nat) code pc with
    | error e => rw [hq] at hu1; cases hu1
    | ok p => rw [hq] at hu1; exact hu1
  have hm : (Reader.s1 : Decoder Int) code pc = Except.bind ((Reader.u1 : Decoder Nat) code pc) (fun p => .ok (Reader.signed 8 p.1, p.2)) := rfl
  have hb : ((Reader.s1 >>= fun x => (pure (f x) : Decoder Instr)) : Decoder Instr) code pc = Except.bind ((Reader.s1 : Decoder Int) code pc) (fun p => .ok (f p.1, p.2)) := rfl
  rw [hb, hm, hu]
  rfl
noncomputable def xdf0 (N n pc k len : Nat) : Bool := Nat.beq (xdbg N n pc) k && Nat.beq len 1
noncomputable def xdf1 (N n pc k a len : Nat) : Bool := Nat.beq (xdbg N n pc) k && (Nat.beq (xdbg N n (pc + 1)) a && (Nat.blt a 256 && Nat.beq len 2))
noncomputable def xdf2 (N n pc k a len : Nat) : Bool := Nat.beq (xdbg N n pc) k && (Nat.blt (xdbg N n (pc + 1)) 256 && (Nat.blt (xdbg N n (pc + 2)) 256 && (Nat.beq (xdbg N n (pc + 1) * 256 + xdbg N n (pc + 2)) a && Nat.beq len 3)))
noncomputable def xdf3 (N n pc k : Nat) (a : Int) (len : Nat) : Bool := Nat.beq (xdbg N n pc) k && (Nat.blt (xdbg N n (pc + 1)) 256 && (Nat.blt (xdbg N n (pc + 2)) 256 && (decide (Reader.signed 16 (xdbg N n (pc + 1) * 256 + xdbg N n (pc + 2)) = a) && Nat.beq len 3)))
noncomputable def xdf4 (N n pc k : Nat) (a : Int) (len : Nat) : Bool := Nat.beq (xdbg N n pc) k && (Nat.blt (xdbg N n (pc + 1)) 256 && (decide (Reader.signed 8 (xdbg N n (pc + 1)) = a) && Nat.beq len 2))
noncomputable def xdf5 (N n pc k i : Nat) (a : Int) (len : Nat) : Bool := Nat.beq (xdbg N n pc) k && (Nat.beq (xdbg N n (pc + 1)) i && (Nat.blt i 256 && (Nat.blt (xdbg N n (pc + 2)) 256 && (decide (Reader.signed 8 (xdbg N n (pc + 2)) = a) && Nat.beq len 3))))
theorem xdf0_ok {N n pc k len : Nat} (h : xdf0 N n pc k len = true) : xdbg N n pc = k ∧ len = pc + 1 - pc := by
  obtain ⟨h1, h2⟩ := xand h
  exact ⟨xeqb h1, by have := xeqb h2; omega⟩
theorem xdf1_ok {N n pc k a len : Nat} (h : xdf1 N n pc k a len = true) : xdbg N n pc = k ∧ xdbg N n (pc + 1) = a ∧ a < 256 ∧ len = pc + 2 - pc := by
  obtain ⟨h1, h⟩ := xand h
  obtain ⟨h2, h⟩ := xand h
  obtain ⟨h3, h4⟩ := xand h
  exact ⟨xeqb h1, xeqb h2, xltb h3, by have := xeqb h4; omega⟩
theorem xdf2_ok {N n pc k a len : Nat} (h : xdf2 N n pc k a len = true) : xdbg N n pc = k ∧ xdbg N n (pc + 1) < 256 ∧ xdbg N n (pc + 2) < 256 ∧ a = xdbg N n (pc + 1) * 256 + xdbg N n (pc + 2) ∧ len = pc + 3 - pc := by
  obtain ⟨h1, h⟩ := xand h
  obtain ⟨h2, h⟩ := xand h
  obtain ⟨h3, h⟩ := xand h
  obtain ⟨h4, h5⟩ := xand h
  exact ⟨xeqb h1, xltb h2, xltb h3, (xeqb h4).symm, by have := xeqb h5; omega⟩
theorem xdf3_ok {N n pc k : Nat} {a : Int} {len : Nat} (h : xdf3 N n pc k a len = true) : xdbg N n pc = k ∧ xdbg N n (pc + 1) < 256 ∧ xdbg N n (pc + 2) < 256 ∧ a = Reader.signed 16 (xdbg N n (pc + 1) * 256 + xdbg N n (pc + 2)) ∧ len = pc + 3 - pc := by
  obtain ⟨h1, h⟩ := xand h
  obtain ⟨h2, h⟩ := xand h
  obtain ⟨h3, h⟩ := xand h
  obtain ⟨h4, h5⟩ := xand h
  exact ⟨xeqb h1, xltb h2, xltb h3, (of_decide_eq_true h4).symm, by have := xeqb h5; omega⟩
theorem xdf4_ok {N n pc k : Nat} {a : Int} {len : Nat} (h : xdf4 N n pc k a len = true) : xdbg N n pc = k ∧ xdbg N n (pc + 1) < 256 ∧ a = Reader.signed 8 (xdbg N n (pc + 1)) ∧ len = pc + 2 - pc := by
  obtain ⟨h1, h⟩ := xand h
  obtain ⟨h2, h⟩ := xand h
  obtain ⟨h4, h5⟩ := xand h
  exact ⟨xeqb h1, xltb h2, (of_decide_eq_true h4).symm, by have := xeqb h5; omega⟩
theorem xdf5_ok {N n pc k i : Nat} {a : Int} {len : Nat} (h : xdf5 N n pc k i a len = true) : xdbg N n pc = k ∧ xdbg N n (pc + 1) = i ∧ i < 256 ∧ xdbg N n (pc + 2) < 256 ∧ a = Reader.signed 8 (xdbg N n (pc + 2)) ∧ len = pc + 3 - pc := by
  obtain ⟨h1, h⟩ := xand h
  obtain ⟨h2, h⟩ := xand h
  obtain ⟨h6, h⟩ := xand h
  obtain ⟨h3, h⟩ := xand h
  obtain ⟨h4, h5⟩ := xand h
  exact ⟨xeqb h1, xeqb h2, xltb h6, xltb h3, (of_decide_eq_true h4).symm, by have := xeqb h5; omega⟩
noncomputable def xdic (k : Int) : Nat := match k with
  | .ofNat m => 3 + m
  | .negSucc _ => 2
noncomputable def xdco (c : Jvm.ClassFile.Cond) : Nat := match c with
  | .eq => 0
  | .ne => 1
  | .lt => 2
  | .ge => 3
  | .gt => 4
  | .le => 5
noncomputable def xdfd (code : ByteArray) (N n pc len : Nat) (ins : Instr) : Bool := match ins with
  | .aaload => xdf0 N n pc 50 len
  | .aastore => xdf0 N n pc 83 len
  | .arraylength => xdf0 N n pc 190 len
  | .baload => xdf0 N n pc 51 len
  | .bastore => xdf0 N n pc 84 len
  | .dup => xdf0 N n pc 89 len
  | .dup2 => xdf0 N n pc 92 len
  | .i2b => xdf0 N n pc 145 len
  | .i2c => xdf0 N n pc 146 len
  | .i2l => xdf0 N n pc 133 len
  | .i2s => xdf0 N n pc 147 len
  | .iadd => xdf0 N n pc 96 len
  | .iaload => xdf0 N n pc 46 len
  | .iand => xdf0 N n pc 126 len
  | .iastore => xdf0 N n pc 79 len
  | .idiv => xdf0 N n pc 108 len
  | .imul => xdf0 N n pc 104 len
  | .ineg => xdf0 N n pc 116 len
  | .ior => xdf0 N n pc 128 len
  | .irem => xdf0 N n pc 112 len
  | .ireturn => xdf0 N n pc 172 len
  | .ishl => xdf0 N n pc 120 len
  | .ishr => xdf0 N n pc 122 len
  | .isub => xdf0 N n pc 100 len
  | .iushr => xdf0 N n pc 124 len
  | .l2i => xdf0 N n pc 136 len
  | .ladd => xdf0 N n pc 97 len
  | .laload => xdf0 N n pc 47 len
  | .land => xdf0 N n pc 127 len
  | .lastore => xdf0 N n pc 80 len
  | .lcmp => xdf0 N n pc 148 len
  | .ldiv => xdf0 N n pc 109 len
  | .lmul => xdf0 N n pc 105 len
  | .lor => xdf0 N n pc 129 len
  | .lrem => xdf0 N n pc 113 len
  | .lreturn => xdf0 N n pc 173 len
  | .lshl => xdf0 N n pc 121 len
  | .lshr => xdf0 N n pc 123 len
  | .pop => xdf0 N n pc 87 len
  | .pop2 => xdf0 N n pc 88 len
  | .return_ => xdf0 N n pc 177 len
  | .iload a => xdf1 N n pc 21 a len
  | .lload a => xdf1 N n pc 22 a len
  | .aload a => xdf1 N n pc 25 a len
  | .istore a => xdf1 N n pc 54 a len
  | .lstore a => xdf1 N n pc 55 a len
  | .astore a => xdf1 N n pc 58 a len
  | .ldc a => xdf1 N n pc 18 a len
  | .anewarray a => xdf2 N n pc 189 a len
  | .getfield a => xdf2 N n pc 180 a len
  | .getstatic a => xdf2 N n pc 178 a len
  | .putfield a => xdf2 N n pc 181 a len
  | .invokevirtual a => xdf2 N n pc 182 a len
  | .invokespecial a => xdf2 N n pc 183 a len
  | .invokestatic a => xdf2 N n pc 184 a len
  | .new a => xdf2 N n pc 187 a len
  | .ldc_w a => xdf2 N n pc 19 a len
  | .ldc2_w a => xdf2 N n pc 20 a len
  | .sipush a => xdf3 N n pc 17 a len
  | .goto a => xdf3 N n pc 167 a len
  | .ifnull a => xdf3 N n pc 198 a len
  | .ifnonnull a => xdf3 N n pc 199 a len
  | .iload_n k => xdf0 N n pc (26 + k.val) len
  | .lload_n k => xdf0 N n pc (30 + k.val) len
  | .aload_n k => xdf0 N n pc (42 + k.val) len
  | .istore_n k => xdf0 N n pc (59 + k.val) len
  | .lstore_n k => xdf0 N n pc (63 + k.val) len
  | .astore_n k => xdf0 N n pc (75 + k.val) len
  | .ifCond c a => xdf3 N n pc (153 + xdco c) a len
  | .if_icmp c a => xdf3 N n pc (159 + xdco c) a len
  | .iconst k => xdf0 N n pc (xdic k) len && decide (-1 ≤ k ∧ k ≤ 5)
  | .lconst k => xdf0 N n pc (9 + k.val) len
  | .bipush a => xdf4 N n pc 16 a len
  | .iinc i a => xdf5 N n pc 132 i a len
  | ins => decide (decode code pc = .ok (ins, len))
set_option maxRecDepth 20000 in
theorem xdfd_aaload {code : ByteArray} {N n pc len : Nat} (H : xdpc code.data.toList N n = true) (h : xdf0 N n pc 50 len = true) : decode code pc = .ok (.aaload, len) := by
  obtain ⟨h1, h2⟩ := xdf0_ok h
  rw [h2]
  exact xdcb ((xdop H h1 (by decide) _).trans rfl)
set_option maxRecDepth 20000 in
theorem xdfd_aastore {code : ByteArray} {N n pc len : Nat} (H : xdpc code.data.toList N n = true) (h : xdf0 N n pc 83 len = true) : decode code pc = .ok (.aastore, len) := by
  obtain ⟨h1, h2⟩ := xdf0_ok h
  rw [h2]
  exact xdcb ((xdop H h1 (by decide) _).trans rfl)
set_option maxRecDepth 20000 in
theorem xdfd_arraylength {code : ByteArray} {N n pc len : Nat} (H : xdpc code.data.toList N n = true) (h : xdf0 N n pc 190 len = true) : decode code pc = .ok (.arraylength, len) := by
  obtain ⟨h1, h2⟩ := xdf0_ok h
  rw [h2]
  exact xdcb ((xdop H h1 (by decide) _).trans rfl)
set_option maxRecDepth 20000 in
theorem xdfd_baload {code : ByteArray} {N n pc len : Nat} (H : xdpc code.data.toList N n = true) (h : xdf0 N n pc 51 len = true) : decode code pc = .ok (.baload, len) := by
  obtain ⟨h1, h2⟩ := xdf0_ok h
  rw [h2]
  exact xdcb ((xdop H h1 (by decide) _).trans rfl)
set_option maxRecDepth 20000 in
theorem xdfd_bastore {code : ByteArray} {N n pc len : Nat} (H : xdpc code.data.toList N n = true) (h : xdf0 N n pc 84 len = true) : decode code pc = .ok (.bastore, len) := by
  obtain ⟨h1, h2⟩ := xdf0_ok h
  rw [h2]
  exact xdcb ((xdop H h1 (by decide) _).trans rfl)
set_option maxRecDepth 20000 in
theorem xdfd_dup {code : ByteArray} {N n pc len : Nat} (H : xdpc code.data.toList N n = true) (h : xdf0 N n pc 89 len = true) : decode code pc = .ok (.dup, len) := by
  obtain ⟨h1, h2⟩ := xdf0_ok h
  rw [h2]
  exact xdcb ((xdop H h1 (by decide) _).trans rfl)
set_option maxRecDepth 20000 in
theorem xdfd_dup2 {code : ByteArray} {N n pc len : Nat} (H : xdpc code.data.toList N n = true) (h : xdf0 N n pc 92 len = true) : decode code pc = .ok (.dup2, len) := by
  obtain ⟨h1, h2⟩ := xdf0_ok h
  rw [h2]
  exact xdcb ((xdop H h1 (by decide) _).trans rfl)
set_option maxRecDepth 20000 in
theorem xdfd_i2b {code : ByteArray} {N n pc len : Nat} (H : xdpc code.data.toList N n = true) (h : xdf0 N n pc 145 len = true) : decode code pc = .ok (.i2b, len) := by
  obtain ⟨h1, h2⟩ := xdf0_ok h
  rw [h2]
  exact xdcb ((xdop H h1 (by decide) _).trans rfl)
set_option maxRecDepth 20000 in
theorem xdfd_i2c {code : ByteArray} {N n pc len : Nat} (H : xdpc code.data.toList N n = true) (h : xdf0 N n pc 146 len = true) : decode code pc = .ok (.i2c, len) := by
  obtain ⟨h1, h2⟩ := xdf0_ok h
  rw [h2]
  exact xdcb ((xdop H h1 (by decide) _).trans rfl)
set_option maxRecDepth 20000 in
theorem xdfd_i2l {code : ByteArray} {N n pc len : Nat} (H : xdpc code.data.toList N n = true) (h : xdf0 N n pc 133 len = true) : decode code pc = .ok (.i2l, len) := by
  obtain ⟨h1, h2⟩ := xdf0_ok h
  rw [h2]
  exact xdcb ((xdop H h1 (by decide) _).trans rfl)
set_option maxRecDepth 20000 in
theorem xdfd_i2s {code : ByteArray} {N n pc len : Nat} (H : xdpc code.data.toList N n = true) (h : xdf0 N n pc 147 len = true) : decode code pc = .ok (.i2s, len) := by
  obtain ⟨h1, h2⟩ := xdf0_ok h
  rw [h2]
  exact xdcb ((xdop H h1 (by decide) _).trans rfl)
set_option maxRecDepth 20000 in
theorem xdfd_iadd {code : ByteArray} {N n pc len : Nat} (H : xdpc code.data.toList N n = true) (h : xdf0 N n pc 96 len = true) : decode code pc = .ok (.iadd, len) := by
  obtain ⟨h1, h2⟩ := xdf0_ok h
  rw [h2]
  exact xdcb ((xdop H h1 (by decide) _).trans rfl)
set_option maxRecDepth 20000 in
theorem xdfd_iaload {code : ByteArray} {N n pc len : Nat} (H : xdpc code.data.toList N n = true) (h : xdf0 N n pc 46 len = true) : decode code pc = .ok (.iaload, len) := by
  obtain ⟨h1, h2⟩ := xdf0_ok h
  rw [h2]
  exact xdcb ((xdop H h1 (by decide) _).trans rfl)
set_option maxRecDepth 20000 in
theorem xdfd_iand {code : ByteArray} {N n pc len : Nat} (H : xdpc code.data.toList N n = true) (h : xdf0 N n pc 126 len = true) : decode code pc = .ok (.iand, len) := by
  obtain ⟨h1, h2⟩ := xdf0_ok h
  rw [h2]
  exact xdcb ((xdop H h1 (by decide) _).trans rfl)
set_option maxRecDepth 20000 in
theorem xdfd_iastore {code : ByteArray} {N n pc len : Nat} (H : xdpc code.data.toList N n = true) (h : xdf0 N n pc 79 len = true) : decode code pc = .ok (.iastore, len) := by
  obtain ⟨h1, h2⟩ := xdf0_ok h
  rw [h2]
  exact xdcb ((xdop H h1 (by decide) _).trans rfl)
set_option maxRecDepth 20000 in
theorem xdfd_idiv {code : ByteArray} {N n pc len : Nat} (H : xdpc code.data.toList N n = true) (h : xdf0 N n pc 108 len = true) : decode code pc = .ok (.idiv, len) := by
  obtain ⟨h1, h2⟩ := xdf0_ok h
  rw [h2]
  exact xdcb ((xdop H h1 (by decide) _).trans rfl)
set_option maxRecDepth 20000 in
theorem xdfd_imul {code : ByteArray} {N n pc len : Nat} (H : xdpc code.data.toList N n = true) (h : xdf0 N n pc 104 len = true) : decode code pc = .ok (.imul, len) := by
  obtain ⟨h1, h2⟩ := xdf0_ok h
  rw [h2]
  exact xdcb ((xdop H h1 (by decide) _).trans rfl)
set_option maxRecDepth 20000 in
theorem xdfd_ineg {code : ByteArray} {N n pc len : Nat} (H : xdpc code.data.toList N n = true) (h : xdf0 N n pc 116 len = true) : decode code pc = .ok (.ineg, len) := by
  obtain ⟨h1, h2⟩ := xdf0_ok h
  rw [h2]
  exact xdcb ((xdop H h1 (by decide) _).trans rfl)
set_option maxRecDepth 20000 in
theorem xdfd_ior {code : ByteArray} {N n pc len : Nat} (H : xdpc code.data.toList N n = true) (h : xdf0 N n pc 128 len = true) : decode code pc = .ok (.ior, len) := by
  obtain ⟨h1, h2⟩ := xdf0_ok h
  rw [h2]
  exact xdcb ((xdop H h1 (by decide) _).trans rfl)
set_option maxRecDepth 20000 in
theorem xdfd_irem {code : ByteArray} {N n pc len : Nat} (H : xdpc code.data.toList N n = true) (h : xdf0 N n pc 112 len = true) : decode code pc = .ok (.irem, len) := by
  obtain ⟨h1, h2⟩ := xdf0_ok h
  rw [h2]
  exact xdcb ((xdop H h1 (by decide) _).trans rfl)
set_option maxRecDepth 20000 in
theorem xdfd_ireturn {code : ByteArray} {N n pc len : Nat} (H : xdpc code.data.toList N n = true) (h : xdf0 N n pc 172 len = true) : decode code pc = .ok (.ireturn, len) := by
  obtain ⟨h1, h2⟩ := xdf0_ok h
  rw [h2]
  exact xdcb ((xdop H h1 (by decide) _).trans rfl)
set_option maxRecDepth 20000 in
theorem xdfd_ishl {code : ByteArray} {N n pc len : Nat} (H : xdpc code.data.toList N n = true) (h : xdf0 N n pc 120 len = true) : decode code pc = .ok (.ishl, len) := by
  obtain ⟨h1, h2⟩ := xdf0_ok h
  rw [h2]
  exact xdcb ((xdop H h1 (by decide) _).trans rfl)
set_option maxRecDepth 20000 in
theorem xdfd_ishr {code : ByteArray} {N n pc len : Nat} (H : xdpc code.data.toList N n = true) (h : xdf0 N n pc 122 len = true) : decode code pc = .ok (.ishr, len) := by
  obtain ⟨h1, h2⟩ := xdf0_ok h
  rw [h2]
  exact xdcb ((xdop H h1 (by decide) _).trans rfl)
set_option maxRecDepth 20000 in
theorem xdfd_isub {code : ByteArray} {N n pc len : Nat} (H : xdpc code.data.toList N n = true) (h : xdf0 N n pc 100 len = true) : decode code pc = .ok (.isub, len) := by
  obtain ⟨h1, h2⟩ := xdf0_ok h
  rw [h2]
  exact xdcb ((xdop H h1 (by decide) _).trans rfl)
set_option maxRecDepth 20000 in
theorem xdfd_iushr {code : ByteArray} {N n pc len : Nat} (H : xdpc code.data.toList N n = true) (h : xdf0 N n pc 124 len = true) : decode code pc = .ok (.iushr, len) := by
  obtain ⟨h1, h2⟩ := xdf0_ok h
  rw [h2]
  exact xdcb ((xdop H h1 (by decide) _).trans rfl)
set_option maxRecDepth 20000 in
theorem xdfd_l2i {code : ByteArray} {N n pc len : Nat} (H : xdpc code.data.toList N n = true) (h : xdf0 N n pc 136 len = true) : decode code pc = .ok (.l2i, len) := by
  obtain ⟨h1, h2⟩ := xdf0_ok h
  rw [h2]
  exact xdcb ((xdop H h1 (by decide) _).trans rfl)
set_option maxRecDepth 20000 in
theorem xdfd_ladd {code : ByteArray} {N n pc len : Nat} (H : xdpc code.data.toList N n = true) (h : xdf0 N n pc 97 len = true) : decode code pc = .ok (.ladd, len) := by
  obtain ⟨h1, h2⟩ := xdf0_ok h
  rw [h2]
  exact xdcb ((xdop H h1 (by decide) _).trans rfl)
set_option maxRecDepth 20000 in
theorem xdfd_laload {code : ByteArray} {N n pc len : Nat} (H : xdpc code.data.toList N n = true) (h : xdf0 N n pc 47 len = true) : decode code pc = .ok (.laload, len) := by
  obtain ⟨h1, h2⟩ := xdf0_ok h
  rw [h2]
  exact xdcb ((xdop H h1 (by decide) _).trans rfl)
set_option maxRecDepth 20000 in
theorem xdfd_land {code : ByteArray} {N n pc len : Nat} (H : xdpc code.data.toList N n = true) (h : xdf0 N n pc 127 len = true) : decode code pc = .ok (.land, len) := by
  obtain ⟨h1, h2⟩ := xdf0_ok h
  rw [h2]
  exact xdcb ((xdop H h1 (by decide) _).trans rfl)
set_option maxRecDepth 20000 in
theorem xdfd_lastore {code : ByteArray} {N n pc len : Nat} (H : xdpc code.data.toList N n = true) (h : xdf0 N n pc 80 len = true) : decode code pc = .ok (.lastore, len) := by
  obtain ⟨h1, h2⟩ := xdf0_ok h
  rw [h2]
  exact xdcb ((xdop H h1 (by decide) _).trans rfl)
set_option maxRecDepth 20000 in
theorem xdfd_lcmp {code : ByteArray} {N n pc len : Nat} (H : xdpc code.data.toList N n = true) (h : xdf0 N n pc 148 len = true) : decode code pc = .ok (.lcmp, len) := by
  obtain ⟨h1, h2⟩ := xdf0_ok h
  rw [h2]
  exact xdcb ((xdop H h1 (by decide) _).trans rfl)
set_option maxRecDepth 20000 in
theorem xdfd_ldiv {code : ByteArray} {N n pc len : Nat} (H : xdpc code.data.toList N n = true) (h : xdf0 N n pc 109 len = true) : decode code pc = .ok (.ldiv, len) := by
  obtain ⟨h1, h2⟩ := xdf0_ok h
  rw [h2]
  exact xdcb ((xdop H h1 (by decide) _).trans rfl)
set_option maxRecDepth 20000 in
theorem xdfd_lmul {code : ByteArray} {N n pc len : Nat} (H : xdpc code.data.toList N n = true) (h : xdf0 N n pc 105 len = true) : decode code pc = .ok (.lmul, len) := by
  obtain ⟨h1, h2⟩ := xdf0_ok h
  rw [h2]
  exact xdcb ((xdop H h1 (by decide) _).trans rfl)
set_option maxRecDepth 20000 in
theorem xdfd_lor {code : ByteArray} {N n pc len : Nat} (H : xdpc code.data.toList N n = true) (h : xdf0 N n pc 129 len = true) : decode code pc = .ok (.lor, len) := by
  obtain ⟨h1, h2⟩ := xdf0_ok h
  rw [h2]
  exact xdcb ((xdop H h1 (by decide) _).trans rfl)
set_option maxRecDepth 20000 in
theorem xdfd_lrem {code : ByteArray} {N n pc len : Nat} (H : xdpc code.data.toList N n = true) (h : xdf0 N n pc 113 len = true) : decode code pc = .ok (.lrem, len) := by
  obtain ⟨h1, h2⟩ := xdf0_ok h
  rw [h2]
  exact xdcb ((xdop H h1 (by decide) _).trans rfl)
set_option maxRecDepth 20000 in
theorem xdfd_lreturn {code : ByteArray} {N n pc len : Nat} (H : xdpc code.data.toList N n = true) (h : xdf0 N n pc 173 len = true) : decode code pc = .ok (.lreturn, len) := by
  obtain ⟨h1, h2⟩ := xdf0_ok h
  rw [h2]
  exact xdcb ((xdop H h1 (by decide) _).trans rfl)
set_option maxRecDepth 20000 in
theorem xdfd_lshl {code : ByteArray} {N n pc len : Nat} (H : xdpc code.data.toList N n = true) (h : xdf0 N n pc 121 len = true) : decode code pc = .ok (.lshl, len) := by
  obtain ⟨h1, h2⟩ := xdf0_ok h
  rw [h2]
  exact xdcb ((xdop H h1 (by decide) _).trans rfl)
set_option maxRecDepth 20000 in
theorem xdfd_lshr {code : ByteArray} {N n pc len : Nat} (H : xdpc code.data.toList N n = true) (h : xdf0 N n pc 123 len = true) : decode code pc = .ok (.lshr, len) := by
  obtain ⟨h1, h2⟩ := xdf0_ok h
  rw [h2]
  exact xdcb ((xdop H h1 (by decide) _).trans rfl)
set_option maxRecDepth 20000 in
theorem xdfd_pop {code : ByteArray} {N n pc len : Nat} (H : xdpc code.data.toList N n = true) (h : xdf0 N n pc 87 len = true) : decode code pc = .ok (.pop, len) := by
  obtain ⟨h1, h2⟩ := xdf0_ok h
  rw [h2]
  exact xdcb ((xdop H h1 (by decide) _).trans rfl)
set_option maxRecDepth 20000 in
theorem xdfd_pop2 {code : ByteArray} {N n pc len : Nat} (H : xdpc code.data.toList N n = true) (h : xdf0 N n pc 88 len = true) : decode code pc = .ok (.pop2, len) := by
  obtain ⟨h1, h2⟩ := xdf0_ok h
  rw [h2]
  exact xdcb ((xdop H h1 (by decide) _).trans rfl)
set_option maxRecDepth 20000 in
theorem xdfd_return_ {code : ByteArray} {N n pc len : Nat} (H : xdpc code.data.toList N n = true) (h : xdf0 N n pc 177 len = true) : decode code pc = .ok (.return_, len) := by
  obtain ⟨h1, h2⟩ := xdf0_ok h
  rw [h2]
  exact xdcb ((xdop H h1 (by decide) _).trans rfl)
set_option maxRecDepth 20000 in
theorem xdfd_iload {code : ByteArray} {N n pc len : Nat} (H : xdpc code.data.toList N n = true) {a : Nat} (h : xdf1 N n pc 21 a len = true) : decode code pc = .ok (.iload a, len) := by
  obtain ⟨h1, h2, h3, h4⟩ := xdf1_ok h
  rw [h4]
  exact xdcb ((xdop H h1 (by decide) _).trans ((xdop H h2 h3 _).trans rfl))
set_option maxRecDepth 20000 in
theorem xdfd_lload {code : ByteArray} {N n pc len : Nat} (H : xdpc code.data.toList N n = true) {a : Nat} (h : xdf1 N n pc 22 a len = true) : decode code pc = .ok (.lload a, len) := by
  obtain ⟨h1, h2, h3, h4⟩ := xdf1_ok h
  rw [h4]
  exact xdcb ((xdop H h1 (by decide) _).trans ((xdop H h2 h3 _).trans rfl))
set_option maxRecDepth 20000 in
theorem xdfd_aload {code : ByteArray} {N n pc len : Nat} (H : xdpc code.data.toList N n = true) {a : Nat} (h : xdf1 N n pc 25 a len = true) : decode code pc = .ok (.aload a, len) := by
  obtain ⟨h1, h2, h3, h4⟩ := xdf1_ok h
  rw [h4]
  exact xdcb ((xdop H h1 (by decide) _).trans ((xdop H h2 h3 _).trans rfl))
set_option maxRecDepth 20000 in
theorem xdfd_istore {code : ByteArray} {N n pc len : Nat} (H : xdpc code.data.toList N n = true) {a : Nat} (h : xdf1 N n pc 54 a len = true) : decode code pc = .ok (.istore a, len) := by
  obtain ⟨h1, h2, h3, h4⟩ := xdf1_ok h
  rw [h4]
  exact xdcb ((xdop H h1 (by decide) _).trans ((xdop H h2 h3 _).trans rfl))
set_option maxRecDepth 20000 in
theorem xdfd_lstore {code : ByteArray} {N n pc len : Nat} (H : xdpc code.data.toList N n = true) {a : Nat} (h : xdf1 N n pc 55 a len = true) : decode code pc = .ok (.lstore a, len) := by
  obtain ⟨h1, h2, h3, h4⟩ := xdf1_ok h
  rw [h4]
  exact xdcb ((xdop H h1 (by decide) _).trans ((xdop H h2 h3 _).trans rfl))
set_option maxRecDepth 20000 in
theorem xdfd_astore {code : ByteArray} {N n pc len : Nat} (H : xdpc code.data.toList N n = true) {a : Nat} (h : xdf1 N n pc 58 a len = true) : decode code pc = .ok (.astore a, len) := by
  obtain ⟨h1, h2, h3, h4⟩ := xdf1_ok h
  rw [h4]
  exact xdcb ((xdop H h1 (by decide) _).trans ((xdop H h2 h3 _).trans rfl))
set_option maxRecDepth 20000 in
theorem xdfd_ldc {code : ByteArray} {N n pc len : Nat} (H : xdpc code.data.toList N n = true) {a : Nat} (h : xdf1 N n pc 18 a len = true) : decode code pc = .ok (.ldc a, len) := by
  obtain ⟨h1, h2, h3, h4⟩ := xdf1_ok h
  rw [h4]
  exact xdcb ((xdop H h1 (by decide) _).trans ((xdop H h2 h3 _).trans rfl))
set_option maxRecDepth 20000 in
theorem xdfd_anewarray {code : ByteArray} {N n pc len : Nat} (H : xdpc code.data.toList N n = true) {a : Nat} (h : xdf2 N n pc 189 a len = true) : decode code pc = .ok (.anewarray a, len) := by
  obtain ⟨h1, h2, h3, h4, h5⟩ := xdf2_ok h
  rw [h4, h5]
  exact xdcb ((xdop H h1 (by decide) _).trans (xdu2 H h2 h3 _))
set_option maxRecDepth 20000 in
theorem xdfd_getfield {code : ByteArray} {N n pc len : Nat} (H : xdpc code.data.toList N n = true) {a : Nat} (h : xdf2 N n pc 180 a len = true) : decode code pc = .ok (.getfield a, len) := by
  obtain ⟨h1, h2, h3, h4, h5⟩ := xdf2_ok h
  rw [h4, h5]
  exact xdcb ((xdop H h1 (by decide) _).trans (xdu2 H h2 h3 _))
set_option maxRecDepth 20000 in
theorem xdfd_getstatic {code : ByteArray} {N n pc len : Nat} (H : xdpc code.data.toList N n = true) {a : Nat} (h : xdf2 N n pc 178 a len = true) : decode code pc = .ok (.getstatic a, len) := by
  obtain ⟨h1, h2, h3, h4, h5⟩ := xdf2_ok h
  rw [h4, h5]
  exact xdcb ((xdop H h1 (by decide) _).trans (xdu2 H h2 h3 _))
set_option maxRecDepth 20000 in
theorem xdfd_putfield {code : ByteArray} {N n pc len : Nat} (H : xdpc code.data.toList N n = true) {a : Nat} (h : xdf2 N n pc 181 a len = true) : decode code pc = .ok (.putfield a, len) := by
  obtain ⟨h1, h2, h3, h4, h5⟩ := xdf2_ok h
  rw [h4, h5]
  exact xdcb ((xdop H h1 (by decide) _).trans (xdu2 H h2 h3 _))
set_option maxRecDepth 20000 in
theorem xdfd_invokevirtual {code : ByteArray} {N n pc len : Nat} (H : xdpc code.data.toList N n = true) {a : Nat} (h : xdf2 N n pc 182 a len = true) : decode code pc = .ok (.invokevirtual a, len) := by
  obtain ⟨h1, h2, h3, h4, h5⟩ := xdf2_ok h
  rw [h4, h5]
  exact xdcb ((xdop H h1 (by decide) _).trans (xdu2 H h2 h3 _))
set_option maxRecDepth 20000 in
theorem xdfd_invokespecial {code : ByteArray} {N n pc len : Nat} (H : xdpc code.data.toList N n = true) {a : Nat} (h : xdf2 N n pc 183 a len = true) : decode code pc = .ok (.invokespecial a, len) := by
  obtain ⟨h1, h2, h3, h4, h5⟩ := xdf2_ok h
  rw [h4, h5]
  exact xdcb ((xdop H h1 (by decide) _).trans (xdu2 H h2 h3 _))
set_option maxRecDepth 20000 in
theorem xdfd_invokestatic {code : ByteArray} {N n pc len : Nat} (H : xdpc code.data.toList N n = true) {a : Nat} (h : xdf2 N n pc 184 a len = true) : decode code pc = .ok (.invokestatic a, len) := by
  obtain ⟨h1, h2, h3, h4, h5⟩ := xdf2_ok h
  rw [h4, h5]
  exact xdcb ((xdop H h1 (by decide) _).trans (xdu2 H h2 h3 _))
set_option maxRecDepth 20000 in
theorem xdfd_new {code : ByteArray} {N n pc len : Nat} (H : xdpc code.data.toList N n = true) {a : Nat} (h : xdf2 N n pc 187 a len = true) : decode code pc = .ok (.new a, len) := by
  obtain ⟨h1, h2, h3, h4, h5⟩ := xdf2_ok h
  rw [h4, h5]
  exact xdcb ((xdop H h1 (by decide) _).trans (xdu2 H h2 h3 _))
set_option maxRecDepth 20000 in
theorem xdfd_ldc_w {code : ByteArray} {N n pc len : Nat} (H : xdpc code.data.toList N n = true) {a : Nat} (h : xdf2 N n pc 19 a len = true) : decode code pc = .ok (.ldc_w a, len) := by
  obtain ⟨h1, h2, h3, h4, h5⟩ := xdf2_ok h
  rw [h4, h5]
  exact xdcb ((xdop H h1 (by decide) _).trans (xdu2 H h2 h3 _))
set_option maxRecDepth 20000 in
theorem xdfd_ldc2_w {code : ByteArray} {N n pc len : Nat} (H : xdpc code.data.toList N n = true) {a : Nat} (h : xdf2 N n pc 20 a len = true) : decode code pc = .ok (.ldc2_w a, len) := by
  obtain ⟨h1, h2, h3, h4, h5⟩ := xdf2_ok h
  rw [h4, h5]
  exact xdcb ((xdop H h1 (by decide) _).trans (xdu2 H h2 h3 _))
set_option maxRecDepth 20000 in
theorem xdfd_sipush {code : ByteArray} {N n pc len : Nat} (H : xdpc code.data.toList N n = true) {a : Int} (h : xdf3 N n pc 17 a len = true) : decode code pc = .ok (.sipush a, len) := by
  obtain ⟨h1, h2, h3, h4, h5⟩ := xdf3_ok h
  rw [h4, h5]
  exact xdcb ((xdop H h1 (by decide) _).trans (xds2 H h2 h3 _))
set_option maxRecDepth 20000 in
theorem xdfd_goto {code : ByteArray} {N n pc len : Nat} (H : xdpc code.data.toList N n = true) {a : Int} (h : xdf3 N n pc 167 a len = true) : decode code pc = .ok (.goto a, len) := by
  obtain ⟨h1, h2, h3, h4, h5⟩ := xdf3_ok h
  rw [h4, h5]
  exact xdcb ((xdop H h1 (by decide) _).trans (xds2 H h2 h3 _))
set_option maxRecDepth 20000 in
theorem xdfd_ifnull {code : ByteArray} {N n pc len : Nat} (H : xdpc code.data.toList N n = true) {a : Int} (h : xdf3 N n pc 198 a len = true) : decode code pc = .ok (.ifnull a, len) := by
  obtain ⟨h1, h2, h3, h4, h5⟩ := xdf3_ok h
  rw [h4, h5]
  exact xdcb ((xdop H h1 (by decide) _).trans (xds2 H h2 h3 _))
set_option maxRecDepth 20000 in
theorem xdfd_ifnonnull {code : ByteArray} {N n pc len : Nat} (H : xdpc code.data.toList N n = true) {a : Int} (h : xdf3 N n pc 199 a len = true) : decode code pc = .ok (.ifnonnull a, len) := by
  obtain ⟨h1, h2, h3, h4, h5⟩ := xdf3_ok h
  rw [h4, h5]
  exact xdcb ((xdop H h1 (by decide) _).trans (xds2 H h2 h3 _))
set_option maxRecDepth 20000 in
theorem xdfd_ifCond_eq {code : ByteArray} {N n pc len : Nat} (H : xdpc code.data.toList N n = true) {a : Int} (h : xdf3 N n pc 153 a len = true) : decode code pc = .ok (.ifCond .eq a, len) := by
  obtain ⟨h1, h2, h3, h4, h5⟩ := xdf3_ok h
  rw [h4, h5]
  exact xdcb ((xdop H h1 (by decide) _).trans (xds2 H h2 h3 _))
set_option maxRecDepth 20000 in
theorem xdfd_if_icmp_eq {code : ByteArray} {N n pc len : Nat} (H : xdpc code.data.toList N n = true) {a : Int} (h : xdf3 N n pc 159 a len = true) : decode code pc = .ok (.if_icmp .eq a, len) := by
  obtain ⟨h1, h2, h3, h4, h5⟩ := xdf3_ok h
  rw [h4, h5]
  exact xdcb ((xdop H h1 (by decide) _).trans (xds2 H h2 h3 _))
set_option maxRecDepth 20000 in
theorem xdfd_ifCond_ne {code : ByteArray} {N n pc len : Nat} (H : xdpc code.data.toList N n = true) {a : Int} (h : xdf3 N n pc 154 a len = true) : decode code pc = .ok (.ifCond .ne a, len) := by
  obtain ⟨h1, h2, h3, h4, h5⟩ := xdf3_ok h
  rw [h4, h5]
  exact xdcb ((xdop H h1 (by decide) _).trans (xds2 H h2 h3 _))
set_option maxRecDepth 20000 in
theorem xdfd_if_icmp_ne {code : ByteArray} {N n pc len : Nat} (H : xdpc code.data.toList N n = true) {a : Int} (h : xdf3 N n pc 160 a len = true) : decode code pc = .ok (.if_icmp .ne a, len) := by
  obtain ⟨h1, h2, h3, h4, h5⟩ := xdf3_ok h
  rw [h4, h5]
  exact xdcb ((xdop H h1 (by decide) _).trans (xds2 H h2 h3 _))
set_option maxRecDepth 20000 in
theorem xdfd_ifCond_lt {code : ByteArray} {N n pc len : Nat} (H : xdpc code.data.toList N n = true) {a : Int} (h : xdf3 N n pc 155 a len = true) : decode code pc = .ok (.ifCond .lt a, len) := by
  obtain ⟨h1, h2, h3, h4, h5⟩ := xdf3_ok h
  rw [h4, h5]
  exact xdcb ((xdop H h1 (by decide) _).trans (xds2 H h2 h3 _))
set_option maxRecDepth 20000 in
theorem xdfd_if_icmp_lt {code : ByteArray} {N n pc len : Nat} (H : xdpc code.data.toList N n = true) {a : Int} (h : xdf3 N n pc 161 a len = true) : decode code pc = .ok (.if_icmp .lt a, len) := by
  obtain ⟨h1, h2, h3, h4, h5⟩ := xdf3_ok h
  rw [h4, h5]
  exact xdcb ((xdop H h1 (by decide) _).trans (xds2 H h2 h3 _))
set_option maxRecDepth 20000 in
theorem xdfd_ifCond_ge {code : ByteArray} {N n pc len : Nat} (H : xdpc code.data.toList N n = true) {a : Int} (h : xdf3 N n pc 156 a len = true) : decode code pc = .ok (.ifCond .ge a, len) := by
  obtain ⟨h1, h2, h3, h4, h5⟩ := xdf3_ok h
  rw [h4, h5]
  exact xdcb ((xdop H h1 (by decide) _).trans (xds2 H h2 h3 _))
set_option maxRecDepth 20000 in
theorem xdfd_if_icmp_ge {code : ByteArray} {N n pc len : Nat} (H : xdpc code.data.toList N n = true) {a : Int} (h : xdf3 N n pc 162 a len = true) : decode code pc = .ok (.if_icmp .ge a, len) := by
  obtain ⟨h1, h2, h3, h4, h5⟩ := xdf3_ok h
  rw [h4, h5]
  exact xdcb ((xdop H h1 (by decide) _).trans (xds2 H h2 h3 _))
set_option maxRecDepth 20000 in
theorem xdfd_ifCond_gt {code : ByteArray} {N n pc len : Nat} (H : xdpc code.data.toList N n = true) {a : Int} (h : xdf3 N n pc 157 a len = true) : decode code pc = .ok (.ifCond .gt a, len) := by
  obtain ⟨h1, h2, h3, h4, h5⟩ := xdf3_ok h
  rw [h4, h5]
  exact xdcb ((xdop H h1 (by decide) _).trans (xds2 H h2 h3 _))
set_option maxRecDepth 20000 in
theorem xdfd_if_icmp_gt {code : ByteArray} {N n pc len : Nat} (H : xdpc code.data.toList N n = true) {a : Int} (h : xdf3 N n pc 163 a len = true) : decode code pc = .ok (.if_icmp .gt a, len) := by
  obtain ⟨h1, h2, h3, h4, h5⟩ := xdf3_ok h
  rw [h4, h5]
  exact xdcb ((xdop H h1 (by decide) _).trans (xds2 H h2 h3 _))
set_option maxRecDepth 20000 in
theorem xdfd_ifCond_le {code : ByteArray} {N n pc len : Nat} (H : xdpc code.data.toList N n = true) {a : Int} (h : xdf3 N n pc 158 a len = true) : decode code pc = .ok (.ifCond .le a, len) := by
  obtain ⟨h1, h2, h3, h4, h5⟩ := xdf3_ok h
  rw [h4, h5]
  exact xdcb ((xdop H h1 (by decide) _).trans (xds2 H h2 h3 _))
set_option maxRecDepth 20000 in
theorem xdfd_if_icmp_le {code : ByteArray} {N n pc len : Nat} (H : xdpc code.data.toList N n = true) {a : Int} (h : xdf3 N n pc 164 a len = true) : decode code pc = .ok (.if_icmp .le a, len) := by
  obtain ⟨h1, h2, h3, h4, h5⟩ := xdf3_ok h
  rw [h4, h5]
  exact xdcb ((xdop H h1 (by decide) _).trans (xds2 H h2 h3 _))
set_option maxRecDepth 20000 in
theorem xdfd_iload_n_0 {code : ByteArray} {N n pc len : Nat} (H : xdpc code.data.toList N n = true) (h : xdf0 N n pc 26 len = true) : decode code pc = .ok (.iload_n 0, len) := by
  obtain ⟨h1, h2⟩ := xdf0_ok h
  rw [h2]
  exact xdcb ((xdop H h1 (by decide) _).trans rfl)
set_option maxRecDepth 20000 in
theorem xdfd_iload_n_1 {code : ByteArray} {N n pc len : Nat} (H : xdpc code.data.toList N n = true) (h : xdf0 N n pc 27 len = true) : decode code pc = .ok (.iload_n 1, len) := by
  obtain ⟨h1, h2⟩ := xdf0_ok h
  rw [h2]
  exact xdcb ((xdop H h1 (by decide) _).trans rfl)
set_option maxRecDepth 20000 in
theorem xdfd_iload_n_2 {code : ByteArray} {N n pc len : Nat} (H : xdpc code.data.toList N n = true) (h : xdf0 N n pc 28 len = true) : decode code pc = .ok (.iload_n 2, len) := by
  obtain ⟨h1, h2⟩ := xdf0_ok h
  rw [h2]
  exact xdcb ((xdop H h1 (by decide) _).trans rfl)
set_option maxRecDepth 20000 in
theorem xdfd_iload_n_3 {code : ByteArray} {N n pc len : Nat} (H : xdpc code.data.toList N n = true) (h : xdf0 N n pc 29 len = true) : decode code pc = .ok (.iload_n 3, len) := by
  obtain ⟨h1, h2⟩ := xdf0_ok h
  rw [h2]
  exact xdcb ((xdop H h1 (by decide) _).trans rfl)
set_option maxRecDepth 20000 in
theorem xdfd_lload_n_0 {code : ByteArray} {N n pc len : Nat} (H : xdpc code.data.toList N n = true) (h : xdf0 N n pc 30 len = true) : decode code pc = .ok (.lload_n 0, len) := by
  obtain ⟨h1, h2⟩ := xdf0_ok h
  rw [h2]
  exact xdcb ((xdop H h1 (by decide) _).trans rfl)
set_option maxRecDepth 20000 in
theorem xdfd_lload_n_1 {code : ByteArray} {N n pc len : Nat} (H : xdpc code.data.toList N n = true) (h : xdf0 N n pc 31 len = true) : decode code pc = .ok (.lload_n 1, len) := by
  obtain ⟨h1, h2⟩ := xdf0_ok h
  rw [h2]
  exact xdcb ((xdop H h1 (by decide) _).trans rfl)
set_option maxRecDepth 20000 in
theorem xdfd_lload_n_2 {code : ByteArray} {N n pc len : Nat} (H : xdpc code.data.toList N n = true) (h : xdf0 N n pc 32 len = true) : decode code pc = .ok (.lload_n 2, len) := by
  obtain ⟨h1, h2⟩ := xdf0_ok h
  rw [h2]
  exact xdcb ((xdop H h1 (by decide) _).trans rfl)
set_option maxRecDepth 20000 in
theorem xdfd_lload_n_3 {code : ByteArray} {N n pc len : Nat} (H : xdpc code.data.toList N n = true) (h : xdf0 N n pc 33 len = true) : decode code pc = .ok (.lload_n 3, len) := by
  obtain ⟨h1, h2⟩ := xdf0_ok h
  rw [h2]
  exact xdcb ((xdop H h1 (by decide) _).trans rfl)
set_option maxRecDepth 20000 in
theorem xdfd_aload_n_0 {code : ByteArray} {N n pc len : Nat} (H : xdpc code.data.toList N n = true) (h : xdf0 N n pc 42 len = true) : decode code pc = .ok (.aload_n 0, len) := by
  obtain ⟨h1, h2⟩ := xdf0_ok h
  rw [h2]
  exact xdcb ((xdop H h1 (by decide) _).trans rfl)
set_option maxRecDepth 20000 in
theorem xdfd_aload_n_1 {code : ByteArray} {N n pc len : Nat} (H : xdpc code.data.toList N n = true) (h : xdf0 N n pc 43 len = true) : decode code pc = .ok (.aload_n 1, len) := by
  obtain ⟨h1, h2⟩ := xdf0_ok h
  rw [h2]
  exact xdcb ((xdop H h1 (by decide) _).trans rfl)
set_option maxRecDepth 20000 in
theorem xdfd_aload_n_2 {code : ByteArray} {N n pc len : Nat} (H : xdpc code.data.toList N n = true) (h : xdf0 N n pc 44 len = true) : decode code pc = .ok (.aload_n 2, len) := by
  obtain ⟨h1, h2⟩ := xdf0_ok h
  rw [h2]
  exact xdcb ((xdop H h1 (by decide) _).trans rfl)
set_option maxRecDepth 20000 in
theorem xdfd_aload_n_3 {code : ByteArray} {N n pc len : Nat} (H : xdpc code.data.toList N n = true) (h : xdf0 N n pc 45 len = true) : decode code pc = .ok (.aload_n 3, len) := by
  obtain ⟨h1, h2⟩ := xdf0_ok h
  rw [h2]
  exact xdcb ((xdop H h1 (by decide) _).trans rfl)
set_option maxRecDepth 20000 in
theorem xdfd_istore_n_0 {code : ByteArray} {N n pc len : Nat} (H : xdpc code.data.toList N n = true) (h : xdf0 N n pc 59 len = true) : decode code pc = .ok (.istore_n 0, len) := by
  obtain ⟨h1, h2⟩ := xdf0_ok h
  rw [h2]
  exact xdcb ((xdop H h1 (by decide) _).trans rfl)
set_option maxRecDepth 20000 in
theorem xdfd_istore_n_1 {code : ByteArray} {N n pc len : Nat} (H : xdpc code.data.toList N n = true) (h : xdf0 N n pc 60 len = true) : decode code pc = .ok (.istore_n 1, len) := by
  obtain ⟨h1, h2⟩ := xdf0_ok h
  rw [h2]
  exact xdcb ((xdop H h1 (by decide) _).trans rfl)
set_option maxRecDepth 20000 in
theorem xdfd_istore_n_2 {code : ByteArray} {N n pc len : Nat} (H : xdpc code.data.toList N n = true) (h : xdf0 N n pc 61 len = true) : decode code pc = .ok (.istore_n 2, len) := by
  obtain ⟨h1, h2⟩ := xdf0_ok h
  rw [h2]
  exact xdcb ((xdop H h1 (by decide) _).trans rfl)
set_option maxRecDepth 20000 in
theorem xdfd_istore_n_3 {code : ByteArray} {N n pc len : Nat} (H : xdpc code.data.toList N n = true) (h : xdf0 N n pc 62 len = true) : decode code pc = .ok (.istore_n 3, len) := by
  obtain ⟨h1, h2⟩ := xdf0_ok h
  rw [h2]
  exact xdcb ((xdop H h1 (by decide) _).trans rfl)
set_option maxRecDepth 20000 in
theorem xdfd_lstore_n_0 {code : ByteArray} {N n pc len : Nat} (H : xdpc code.data.toList N n = true) (h : xdf0 N n pc 63 len = true) : decode code pc = .ok (.lstore_n 0, len) := by
  obtain ⟨h1, h2⟩ := xdf0_ok h
  rw [h2]
  exact xdcb ((xdop H h1 (by decide) _).trans rfl)
set_option maxRecDepth 20000 in
theorem xdfd_lstore_n_1 {code : ByteArray} {N n pc len : Nat} (H : xdpc code.data.toList N n = true) (h : xdf0 N n pc 64 len = true) : decode code pc = .ok (.lstore_n 1, len) := by
  obtain ⟨h1, h2⟩ := xdf0_ok h
  rw [h2]
  exact xdcb ((xdop H h1 (by decide) _).trans rfl)
set_option maxRecDepth 20000 in
theorem xdfd_lstore_n_2 {code : ByteArray} {N n pc len : Nat} (H : xdpc code.data.toList N n = true) (h : xdf0 N n pc 65 len = true) : decode code pc = .ok (.lstore_n 2, len) := by
  obtain ⟨h1, h2⟩ := xdf0_ok h
  rw [h2]
  exact xdcb ((xdop H h1 (by decide) _).trans rfl)
set_option maxRecDepth 20000 in
theorem xdfd_lstore_n_3 {code : ByteArray} {N n pc len : Nat} (H : xdpc code.data.toList N n = true) (h : xdf0 N n pc 66 len = true) : decode code pc = .ok (.lstore_n 3, len) := by
  obtain ⟨h1, h2⟩ := xdf0_ok h
  rw [h2]
  exact xdcb ((xdop H h1 (by decide) _).trans rfl)
set_option maxRecDepth 20000 in
theorem xdfd_astore_n_0 {code : ByteArray} {N n pc len : Nat} (H : xdpc code.data.toList N n = true) (h : xdf0 N n pc 75 len = true) : decode code pc = .ok (.astore_n 0, len) := by
  obtain ⟨h1, h2⟩ := xdf0_ok h
  rw [h2]
  exact xdcb ((xdop H h1 (by decide) _).trans rfl)
set_option maxRecDepth 20000 in
theorem xdfd_astore_n_1 {code : ByteArray} {N n pc len : Nat} (H : xdpc code.data.toList N n = true) (h : xdf0 N n pc 76 len = true) : decode code pc = .ok (.astore_n 1, len) := by
  obtain ⟨h1, h2⟩ := xdf0_ok h
  rw [h2]
  exact xdcb ((xdop H h1 (by decide) _).trans rfl)
set_option maxRecDepth 20000 in
theorem xdfd_astore_n_2 {code : ByteArray} {N n pc len : Nat} (H : xdpc code.data.toList N n = true) (h : xdf0 N n pc 77 len = true) : decode code pc = .ok (.astore_n 2, len) := by
  obtain ⟨h1, h2⟩ := xdf0_ok h
  rw [h2]
  exact xdcb ((xdop H h1 (by decide) _).trans rfl)
set_option maxRecDepth 20000 in
theorem xdfd_astore_n_3 {code : ByteArray} {N n pc len : Nat} (H : xdpc code.data.toList N n = true) (h : xdf0 N n pc 78 len = true) : decode code pc = .ok (.astore_n 3, len) := by
  obtain ⟨h1, h2⟩ := xdf0_ok h
  rw [h2]
  exact xdcb ((xdop H h1 (by decide) _).trans rfl)
set_option maxRecDepth 20000 in
theorem xdfd_lconst_0 {code : ByteArray} {N n pc len : Nat} (H : xdpc code.data.toList N n = true) (h : xdf0 N n pc 9 len = true) : decode code pc = .ok (.lconst 0, len) := by
  obtain ⟨h1, h2⟩ := xdf0_ok h
  rw [h2]
  exact xdcb ((xdop H h1 (by decide) _).trans rfl)
set_option maxRecDepth 20000 in
theorem xdfd_lconst_1 {code : ByteArray} {N n pc len : Nat} (H : xdpc code.data.toList N n = true) (h : xdf0 N n pc 10 len = true) : decode code pc = .ok (.lconst 1, len) := by
  obtain ⟨h1, h2⟩ := xdf0_ok h
  rw [h2]
  exact xdcb ((xdop H h1 (by decide) _).trans rfl)
set_option maxRecDepth 20000 in
theorem xdfd_iconst_0 {code : ByteArray} {N n pc len : Nat} (H : xdpc code.data.toList N n = true) (h : xdf0 N n pc 2 len = true) : decode code pc = .ok (.iconst (-1), len) := by
  obtain ⟨h1, h2⟩ := xdf0_ok h
  rw [h2]
  exact xdcb ((xdop H h1 (by decide) _).trans rfl)
set_option maxRecDepth 20000 in
theorem xdfd_iconst_1 {code : ByteArray} {N n pc len : Nat} (H : xdpc code.data.toList N n = true) (h : xdf0 N n pc 3 len = true) : decode code pc = .ok (.iconst 0, len) := by
  obtain ⟨h1, h2⟩ := xdf0_ok h
  rw [h2]
  exact xdcb ((xdop H h1 (by decide) _).trans rfl)
set_option maxRecDepth 20000 in
theorem xdfd_iconst_2 {code : ByteArray} {N n pc len : Nat} (H : xdpc code.data.toList N n = true) (h : xdf0 N n pc 4 len = true) : decode code pc = .ok (.iconst 1, len) := by
  obtain ⟨h1, h2⟩ := xdf0_ok h
  rw [h2]
  exact xdcb ((xdop H h1 (by decide) _).trans rfl)
set_option maxRecDepth 20000 in
theorem xdfd_iconst_3 {code : ByteArray} {N n pc len : Nat} (H : xdpc code.data.toList N n = true) (h : xdf0 N n pc 5 len = true) : decode code pc = .ok (.iconst 2, len) := by
  obtain ⟨h1, h2⟩ := xdf0_ok h
  rw [h2]
  exact xdcb ((xdop H h1 (by decide) _).trans rfl)
set_option maxRecDepth 20000 in
theorem xdfd_iconst_4 {code : ByteArray} {N n pc len : Nat} (H : xdpc code.data.toList N n = true) (h : xdf0 N n pc 6 len = true) : decode code pc = .ok (.iconst 3, len) := by
  obtain ⟨h1, h2⟩ := xdf0_ok h
  rw [h2]
  exact xdcb ((xdop H h1 (by decide) _).trans rfl)
set_option maxRecDepth 20000 in
theorem xdfd_iconst_5 {code : ByteArray} {N n pc len : Nat} (H : xdpc code.data.toList N n = true) (h : xdf0 N n pc 7 len = true) : decode code pc = .ok (.iconst 4, len) := by
  obtain ⟨h1, h2⟩ := xdf0_ok h
  rw [h2]
  exact xdcb ((xdop H h1 (by decide) _).trans rfl)
set_option maxRecDepth 20000 in
theorem xdfd_iconst_6 {code : ByteArray} {N n pc len : Nat} (H : xdpc code.data.toList N n = true) (h : xdf0 N n pc 8 len = true) : decode code pc = .ok (.iconst 5, len) := by
  obtain ⟨h1, h2⟩ := xdf0_ok h
  rw [h2]
  exact xdcb ((xdop H h1 (by decide) _).trans rfl)
set_option maxRecDepth 20000 in
theorem xdfd_bipush {code : ByteArray} {N n pc len : Nat} (H : xdpc code.data.toList N n = true) {a : Int} (h : xdf4 N n pc 16 a len = true) : decode code pc = .ok (.bipush a, len) := by
  obtain ⟨h1, h2, h4, h5⟩ := xdf4_ok h
  rw [h4, h5]
  exact xdcb ((xdop H h1 (by decide) _).trans (xds1 H h2 _))
set_option maxRecDepth 20000 in
theorem xdfd_iinc {code : ByteArray} {N n pc len : Nat} (H : xdpc code.data.toList N n = true) {i : Nat} {a : Int} (h : xdf5 N n pc 132 i a len = true) : decode code pc = .ok (.iinc i a, len) := by
  obtain ⟨h1, h2, h6, h3, h4, h5⟩ := xdf5_ok h
  rw [h4, h5]
  exact xdcb ((xdop H h1 (by decide) _).trans ((xdop H h2 h6 _).trans (xds1 H h3 _)))
theorem xdfd_iload_n {code : ByteArray} {N n pc len : Nat} (H : xdpc code.data.toList N n = true) {k : Fin 4} (h : xdf0 N n pc (26 + k.val) len = true) : decode code pc = .ok (.iload_n k, len) := by
  match k, h with
  | 0, h => exact xdfd_iload_n_0 H h
  | 1, h => exact xdfd_iload_n_1 H h
  | 2, h => exact xdfd_iload_n_2 H h
  | 3, h => exact xdfd_iload_n_3 H h
theorem xdfd_lload_n {code : ByteArray} {N n pc len : Nat} (H : xdpc code.data.toList N n = true) {k : Fin 4} (h : xdf0 N n pc (30 + k.val) len = true) : decode code pc = .ok (.lload_n k, len) := by
  match k, h with
  | 0, h => exact xdfd_lload_n_0 H h
  | 1, h => exact xdfd_lload_n_1 H h
  | 2, h => exact xdfd_lload_n_2 H h
  | 3, h => exact xdfd_lload_n_3 H h
theorem xdfd_aload_n {code : ByteArray} {N n pc len : Nat} (H : xdpc code.data.toList N n = true) {k : Fin 4} (h : xdf0 N n pc (42 + k.val) len = true) : decode code pc = .ok (.aload_n k, len) := by
  match k, h with
  | 0, h => exact xdfd_aload_n_0 H h
  | 1, h => exact xdfd_aload_n_1 H h
  | 2, h => exact xdfd_aload_n_2 H h
  | 3, h => exact xdfd_aload_n_3 H h
theorem xdfd_istore_n {code : ByteArray} {N n pc len : Nat} (H : xdpc code.data.toList N n = true) {k : Fin 4} (h : xdf0 N n pc (59 + k.val) len = true) : decode code pc = .ok (.istore_n k, len) := by
  match k, h with
  | 0, h => exact xdfd_istore_n_0 H h
  | 1, h => exact xdfd_istore_n_1 H h
  | 2, h => exact xdfd_istore_n_2 H h
  | 3, h => exact xdfd_istore_n_3 H h
theorem xdfd_lstore_n {code : ByteArray} {N n pc len : Nat} (H : xdpc code.data.toList N n = true) {k : Fin 4} (h : xdf0 N n pc (63 + k.val) len = true) : decode code pc = .ok (.lstore_n k, len) := by
  match k, h with
  | 0, h => exact xdfd_lstore_n_0 H h
  | 1, h => exact xdfd_lstore_n_1 H h
  | 2, h => exact xdfd_lstore_n_2 H h
  | 3, h => exact xdfd_lstore_n_3 H h
theorem xdfd_astore_n {code : ByteArray} {N n pc len : Nat} (H : xdpc code.data.toList N n = true) {k : Fin 4} (h : xdf0 N n pc (75 + k.val) len = true) : decode code pc = .ok (.astore_n k, len) := by
  match k, h with
  | 0, h => exact xdfd_astore_n_0 H h
  | 1, h => exact xdfd_astore_n_1 H h
  | 2, h => exact xdfd_astore_n_2 H h
  | 3, h => exact xdfd_astore_n_3 H h
theorem xdfd_lconst {code : ByteArray} {N n pc len : Nat} (H : xdpc code.data.toList N n = true) {k : Fin 2} (h : xdf0 N n pc (9 + k.val) len = true) : decode code pc = .ok (.lconst k, len) := by
  match k, h with
  | 0, h => exact xdfd_lconst_0 H h
  | 1, h => exact xdfd_lconst_1 H h
theorem xdfd_iconst {code : ByteArray} {N n pc len : Nat} (H : xdpc code.data.toList N n = true) {k : Int} (h : (xdf0 N n pc (xdic k) len && decide (-1 ≤ k ∧ k ≤ 5)) = true) : decode code pc = .ok (.iconst k, len) := by
  obtain ⟨h, h2⟩ := xand h
  obtain ⟨h3, h4⟩ := of_decide_eq_true h2
  have hk : k = -1 ∨ k = 0 ∨ k = 1 ∨ k = 2 ∨ k = 3 ∨ k = 4 ∨ k = 5 := by omega
  rcases hk with e | e | e | e | e | e | e
  · subst e
    exact xdfd_iconst_0 H h
  · subst e
    exact xdfd_iconst_1 H h
  · subst e
    exact xdfd_iconst_2 H h
  · subst e
    exact xdfd_iconst_3 H h
  · subst e
    exact xdfd_iconst_4 H h
  · subst e
    exact xdfd_iconst_5 H h
  · subst e
    exact xdfd_iconst_6 H h
theorem xdfd_ifCond {code : ByteArray} {N n pc len : Nat} (H : xdpc code.data.toList N n = true) {c : Jvm.ClassFile.Cond} {a : Int} (h : xdf3 N n pc (153 + xdco c) a len = true) : decode code pc = .ok (.ifCond c a, len) := by
  cases c with
  | eq => exact xdfd_ifCond_eq H h
  | ne => exact xdfd_ifCond_ne H h
  | lt => exact xdfd_ifCond_lt H h
  | ge => exact xdfd_ifCond_ge H h
  | gt => exact xdfd_ifCond_gt H h
  | le => exact xdfd_ifCond_le H h
theorem xdfd_if_icmp {code : ByteArray} {N n pc len : Nat} (H : xdpc code.data.toList N n = true) {c : Jvm.ClassFile.Cond} {a : Int} (h : xdf3 N n pc (159 + xdco c) a len = true) : decode code pc = .ok (.if_icmp c a, len) := by
  cases c with
  | eq => exact xdfd_if_icmp_eq H h
  | ne => exact xdfd_if_icmp_ne H h
  | lt => exact xdfd_if_icmp_lt H h
  | ge => exact xdfd_if_icmp_ge H h
  | gt => exact xdfd_if_icmp_gt H h
  | le => exact xdfd_if_icmp_le H h
theorem xdfd_ok {code : ByteArray} {N n pc len : Nat} (H : xdpc code.data.toList N n = true) {ins : Instr} (h : xdfd code N n pc len ins = true) : decode code pc = .ok (ins, len) := by
  cases ins with
  | aaload => exact xdfd_aaload H h
  | aastore => exact xdfd_aastore H h
  | arraylength => exact xdfd_arraylength H h
  | baload => exact xdfd_baload H h
  | bastore => exact xdfd_bastore H h
  | dup => exact xdfd_dup H h
  | dup2 => exact xdfd_dup2 H h
  | i2b => exact xdfd_i2b H h
  | i2c => exact xdfd_i2c H h
  | i2l => exact xdfd_i2l H h
  | i2s => exact xdfd_i2s H h
  | iadd => exact xdfd_iadd H h
  | iaload => exact xdfd_iaload H h
  | iand => exact xdfd_iand H h
  | iastore => exact xdfd_iastore H h
  | idiv => exact xdfd_idiv H h
  | imul => exact xdfd_imul H h
  | ineg => exact xdfd_ineg H h
  | ior => exact xdfd_ior H h
  | irem => exact xdfd_irem H h
  | ireturn => exact xdfd_ireturn H h
  | ishl => exact xdfd_ishl H h
  | ishr => exact xdfd_ishr H h
  | isub => exact xdfd_isub H h
  | iushr => exact xdfd_iushr H h
  | l2i => exact xdfd_l2i H h
  | ladd => exact xdfd_ladd H h
  | laload => exact xdfd_laload H h
  | land => exact xdfd_land H h
  | lastore => exact xdfd_lastore H h
  | lcmp => exact xdfd_lcmp H h
  | ldiv => exact xdfd_ldiv H h
  | lmul => exact xdfd_lmul H h
  | lor => exact xdfd_lor H h
  | lrem => exact xdfd_lrem H h
  | lreturn => exact xdfd_lreturn H h
  | lshl => exact xdfd_lshl H h
  | lshr => exact xdfd_lshr H h
  | pop => exact xdfd_pop H h
  | pop2 => exact xdfd_pop2 H h
  | return_ => exact xdfd_return_ H h
  | iload a => exact xdfd_iload H h
  | lload a => exact xdfd_lload H h
  | aload a => exact xdfd_aload H h
  | istore a => exact xdfd_istore H h
  | lstore a => exact xdfd_lstore H h
  | astore a => exact xdfd_astore H h
  | ldc a => exact xdfd_ldc H h
  | anewarray a => exact xdfd_anewarray H h
  | getfield a => exact xdfd_getfield H h
  | getstatic a => exact xdfd_getstatic H h
  | putfield a => exact xdfd_putfield H h
  | invokevirtual a => exact xdfd_invokevirtual H h
  | invokespecial a => exact xdfd_invokespecial H h
  | invokestatic a => exact xdfd_invokestatic H h
  | new a => exact xdfd_new H h
  | ldc_w a => exact xdfd_ldc_w H h
  | ldc2_w a => exact xdfd_ldc2_w H h
  | sipush a => exact xdfd_sipush H h
  | goto a => exact xdfd_goto H h
  | ifnull a => exact xdfd_ifnull H h
  | ifnonnull a => exact xdfd_ifnonnull H h
  | iload_n a => exact xdfd_iload_n H h
  | lload_n a => exact xdfd_lload_n H h
  | aload_n a => exact xdfd_aload_n H h
  | istore_n a => exact xdfd_istore_n H h
  | lstore_n a => exact xdfd_lstore_n H h
  | astore_n a => exact xdfd_astore_n H h
  | iconst a => exact xdfd_iconst H h
  | lconst a => exact xdfd_lconst H h
  | bipush a => exact xdfd_bipush H h
  | ifCond c a => exact xdfd_ifCond H h
  | if_icmp c a => exact xdfd_if_icmp H h
  | iinc c a => exact xdfd_iinc H h
  | _ => exact of_decide_eq_true h
theorem xdmono {α : Type} (t : Lean.RArray (Nat × α)) (f g : Nat → α → Bool) (hfg : ∀ k v, f k v = true → g k v = true) (h : xall t f = true) : xall t g = true := by
  induction t with
  | leaf q => exact hfg q.1 q.2 h
  | branch p a b iha ihb =>
    have h : cond (xall a f) (xall b f) false = true := h
    cases ha : xall a f with
    | false => rw [ha] at h; cases h
    | true => rw [ha] at h; exact xal_b (iha ha) (ihb h)
noncomputable def xdrow (N n y pc : Nat) (e : xins) : Bool := Nat.ble pc e.2.1 && (xdfd (xby y) N n pc (e.2.1 - pc) e.1 && xokI y pc e.1 (e.2.1 - pc) e.2.2.1 e.2.2.2.1 e.2.2.2.2)
theorem xdrow_ok {N n y : Nat} (H : xdpc (xby y).data.toList N n = true) (pc : Nat) (e : xins) (h : xdrow N n y pc e = true) : xokE y pc e = true := by
  obtain ⟨h1, h⟩ := xand h
  obtain ⟨h2, h3⟩ := xand h
  unfold xokE
  rw [h1, h3, decide_eq_true (xdfd_ok H h2)]
  rfl
theorem xdtab {y N n : Nat} {t : Lean.RArray (Nat × xins)} (H : xdpc (xby y).data.toList N n = true) (h1 : decide ((xnm y).cls = xcn (xon y)) = true) (h2 : xall t (xdrow N n y) = true) : xokT y t = true := by
  unfold xokT
  rw [h1, xdmono t (xdrow N n y) (xokE y) (xdrow_ok H) h2]
  rfl
