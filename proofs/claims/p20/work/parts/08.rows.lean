/-! Rows of the kit in the explorer's words -/
theorem xoff_ii {x z : Int32} : xoff x.toInt = xoff z.toInt ↔ x = z := by
  have h1 := xoff_int x
  have h2 := xoff_int z
  exact ⟨fun q => Int32.toInt_inj.mp (by omega), fun q => by rw [q]⟩
theorem xoff_lt {x z : Int32} : xoff x.toInt < xoff z.toInt ↔ x < z := by
  have h1 := xoff_int x
  have h2 := xoff_int z
  rw [Int32.lt_iff_toInt_lt]
  omega
theorem xoff_le {x z : Int32} : xoff x.toInt ≤ xoff z.toInt ↔ x ≤ z := by
  have h1 := xoff_int x
  have h2 := xoff_int z
  rw [Int32.le_iff_toInt_le]
  omega
theorem xoff_ll {x z : Int64} : xoff x.toInt = xoff z.toInt ↔ x = z := by
  have h1 := xoff_long x
  have h2 := xoff_long z
  exact ⟨fun q => Int64.toInt_inj.mp (by omega), fun q => by rw [q]⟩
theorem xoff_ltL {x z : Int64} : xoff x.toInt < xoff z.toInt ↔ x < z := by
  have h1 := xoff_long x
  have h2 := xoff_long z
  rw [Int64.lt_iff_toInt_lt]
  omega
section XR
variable {p : Program} {l : Launch} {e : Env} {R : Room} {s : State} {m : MethodId} {args : Array Value} {below : List Frame} {meth : Method} {c : Code} {H : Heap} {locs : List Loc} {cells slots : Nat} {Q : State → Prop}
variable {cc : ByteArray} {pc : Nat} {ls : Array Slot} {rest : List Value}
theorem xicmp {o : Jvm.ClassFile.Cond} (hexec : p.tables.exec = Jvm.exec) (hb : c.code = cc) {x z : Int32} {off : Int} {tgt : Nat} (hdg : decode cc pc = .ok (.if_icmp o off, 3)) (ht : (pc : Int) + off = (tgt : Int))
    (kt : xrel o (xoff x.toInt) (xoff z.toInt) → W p l e R s m args below meth c H locs cells slots Q (F0 m tgt ls rest)) (kf : ¬ xrel o (xoff x.toInt) (xoff z.toInt) → W p l e R s m args below meth c H locs cells slots Q (F0 m (pc + 3) ls rest)) : W p l e R s m args below meth c H locs cells slots Q (F0 m pc ls (.int z :: .int x :: rest)) := by
  cases o with
  | eq => exact lv_icmp_eq hexec hb hdg ht (fun q => kt (xoff_ii.mpr q)) (fun q => kf (fun r => q (xoff_ii.mp r)))
  | ne => exact lv_icmp_ne hexec hb hdg ht (fun q => kt (fun r => absurd (xoff_ii.mp r) q)) (fun q => kf (fun r => r (xoff_ii.mpr q)))
  | lt => exact lv_icmp_lt hexec hb hdg ht (fun q => kt (xoff_lt.mpr q)) (fun q => kf (fun r => q (xoff_lt.mp r)))
  | ge => exact lv_icmp_ge hexec hb hdg ht (fun q => kt (xoff_le.mpr q)) (fun q => kf (fun r => q (xoff_le.mp r)))
  | gt => exact lv_icmp_gt hexec hb hdg ht (fun q => kt (xoff_lt.mpr q)) (fun q => kf (fun r => q (xoff_lt.mp r)))
  | le => exact lv_icmp_le hexec hb hdg ht (fun q => kt (xoff_le.mpr q)) (fun q => kf (fun r => q (xoff_le.mp r)))
theorem xifc {o : Jvm.ClassFile.Cond} (hexec : p.tables.exec = Jvm.exec) (hb : c.code = cc) {x : Int32} {off : Int} {tgt : Nat} (hdg : decode cc pc = .ok (.ifCond o off, 3)) (ht : (pc : Int) + off = (tgt : Int))
    (kt : xrel o (xoff x.toInt) (xoff (nI 0).toInt) → W p l e R s m args below meth c H locs cells slots Q (F0 m tgt ls rest)) (kf : ¬ xrel o (xoff x.toInt) (xoff (nI 0).toInt) → W p l e R s m args below meth c H locs cells slots Q (F0 m (pc + 3) ls rest)) : W p l e R s m args below meth c H locs cells slots Q (F0 m pc ls (.int x :: rest)) := by
  rw [nI_0] at kt kf
  cases o with
  | eq => exact lv_if_eq hexec hb hdg ht (fun q => kt (xoff_ii.mpr q)) (fun q => kf (fun r => q (xoff_ii.mp r)))
  | ne => exact lv_if_ne hexec hb hdg ht (fun q => kt (fun r => absurd (xoff_ii.mp r) q)) (fun q => kf (fun r => r (xoff_ii.mpr q)))
  | lt => exact lv_if_lt hexec hb hdg ht (fun q => kt (xoff_lt.mpr q)) (fun q => kf (fun r => q (xoff_lt.mp r)))
  | ge => exact lv_if_ge hexec hb hdg ht (fun q => kt (xoff_le.mpr q)) (fun q => kf (fun r => q (xoff_le.mp r)))
  | gt => exact lv_if_gt hexec hb hdg ht (fun q => kt (xoff_lt.mpr q)) (fun q => kf (fun r => q (xoff_lt.mp r)))
  | le => exact lv_if_le hexec hb hdg ht (fun q => kt (xoff_le.mpr q)) (fun q => kf (fun r => q (xoff_le.mp r)))
theorem xcallW {A : Nat → Prop} {mc ms : Nat} {st0 : List Value} {Qa : State → Outcome → State → Prop} {free : Addr → Prop} (hr : va_Run p l e R s m args below meth c H locs cells slots mc ms (F0 m pc ls st0) rest Qa free) (hL0 : ∀ q ∈ locs, A q.base) (hf : ∀ q, free q → A q)
    (kk : ∀ (v : Option Value) (st₀ t : State) (H1 : Heap) (locs1 : List Loc), st₀.heap = H → t.heap = H1 → s.vm.Alike t.vm → Qa st₀ (.returned v) t → (∀ q ∈ locs1, A q.base) → W p l e R s m args below meth c H1 locs1 (cells + mc) (slots + ms) Q (F0 m (pc + 3) ls (v.toList ++ rest))) : W p l e R s m args below meth c H locs cells slots Q (F0 m pc ls st0) := by
  intro T hT X
  obtain ⟨v, st₀, t, T', L, h0, X', hL, e1, e2, hq, st⟩ := hr T hT X
  obtain ⟨t2, a1, b1⟩ := kk v st₀ t T'.heap (locs ++ L) h0 e1.symm (by rw [← e2]; exact X'.warmed.alike) hq (fun q hq' => (List.mem_append.mp hq').elim (hL0 q) (fun z => hf _ (hL q z))) T' rfl X'
  exact ⟨t2, st t2 a1, b1⟩
end XR
def xtc : FieldType → Nat
  | .int => 0
  | .long => 1
  | .object _ => 2
  | .array _ => 2
  | .boolean => 3
  | _ => 9
theorem nI_bool {n : Nat} (h : n ≤ 1) : nI n = 0 ∨ nI n = 1 := by
  have : n = 0 ∨ n = 1 := by omega
  rcases this with rfl | rfl
  · exact Or.inl rfl
  · exact Or.inr rfl
theorem xfit_ok {sv : Nat → Int32} {ex : Nat → Nat} {as : List Nat} {ty : FieldType} {w : xv} {v : Value} (h : xden sv ex as w v) (hf : xfit (xtc ty) w = true) : narrow ty v = v ∧ fits ty v = true := by
  cases ty with
  | int => obtain ⟨x, rfl⟩ := xden.int sv ex h (xeqb hf); exact ⟨rfl, rfl⟩
  | long => obtain ⟨x, rfl⟩ := xden.long sv ex h (xeqb hf); exact ⟨rfl, rfl⟩
  | object C =>
    rcases xor2 (show (Nat.beq (xkd w.1) 2 || Nat.beq (xkd w.1) 3) = true from hf) with q | q
    · obtain ⟨x, rfl⟩ := xden.ref sv ex h (xeqb q); exact ⟨rfl, rfl⟩
    · rw [xden.nul sv ex h (xeqb q)]; exact ⟨rfl, rfl⟩
  | array C =>
    rcases xor2 (show (Nat.beq (xkd w.1) 2 || Nat.beq (xkd w.1) 3) = true from hf) with q | q
    · obtain ⟨x, rfl⟩ := xden.ref sv ex h (xeqb q); exact ⟨rfl, rfl⟩
    · rw [xden.nul sv ex h (xeqb q)]; exact ⟨rfl, rfl⟩
  | boolean =>
    obtain ⟨q1, q2⟩ := xand (show (Nat.beq w.1 0 && Nat.ble w.2 1) = true from hf)
    obtain ⟨t, n⟩ := w
    have e : t = 0 := xeqb q1
    subst e
    rw [show v = .int (nI n) from h]
    rcases nI_bool (xleb q2) with q | q <;> rw [q] <;> exact ⟨rfl, rfl⟩
  | _ => cases hf
def xdv (ty : FieldType) (w : xv) : Bool :=
  match xtc ty with
  | 0 => Nat.beq w.1 0 && Nat.beq w.2 0
  | 1 => Nat.beq w.1 2 && Nat.beq w.2 0
  | 2 => Nat.beq w.1 5
  | 3 => Nat.beq w.1 0 && Nat.beq w.2 0
  | _ => false
theorem xdv_ok {sv : Nat → Int32} {ex : Nat → Nat} {as : List Nat} {ty : FieldType} {w : xv} (h : xdv ty w = true) : xden sv ex as w (defaultValue ty) := by
  obtain ⟨t, n⟩ := w
  cases ty with
  | int =>
    obtain ⟨q1, q2⟩ := xand (show (Nat.beq t 0 && Nat.beq n 0) = true from h)
    have e1 : t = 0 := xeqb q1
    have e2 : n = 0 := xeqb q2
    subst e1; subst e2; rfl
  | boolean =>
    obtain ⟨q1, q2⟩ := xand (show (Nat.beq t 0 && Nat.beq n 0) = true from h)
    have e1 : t = 0 := xeqb q1
    have e2 : n = 0 := xeqb q2
    subst e1; subst e2; rfl
  | long =>
    obtain ⟨q1, q2⟩ := xand (show (Nat.beq t 2 && Nat.beq n 0) = true from h)
    have e1 : t = 2 := xeqb q1
    have e2 : n = 0 := xeqb q2
    subst e1; subst e2; rfl
  | object C =>
    have e1 : t = 5 := xeqb h
    subst e1; rfl
  | array C =>
    have e1 : t = 5 := xeqb h
    subst e1; rfl
  | _ => cases h
theorem xstR_cons {sv : Nat → Int32} {ex : Nat → Nat} {as : List Nat} {w : xv} {r : List xv} {stv : List Value} (h : xstR sv ex as (w :: r) stv) : ∃ v m, stv = v :: m ∧ xden sv ex as w v ∧ xstR sv ex as r m := by
  match stv, h with
  | [], h => exact h.elim
  | v :: m, h => exact ⟨v, m, rfl, h.1, h.2⟩
theorem xstR_nil {sv : Nat → Int32} {ex : Nat → Nat} {as : List Nat} {stv : List Value} (h : xstR sv ex as [] stv) : stv = [] := by
  match stv, h with
  | [], _ => rfl
  | _ :: _, h => exact h.elim
theorem nI_sub (a b : Nat) : nI ((a + (4294967296 - b % 4294967296)) % 4294967296) = nI a - nI b := by
  rw [x32]
  apply Int32.toBitVec_inj.mp
  show BitVec.ofNat 32 (a + (4294967296 - b % 4294967296)) = BitVec.ofNat 32 a - BitVec.ofNat 32 b
  apply BitVec.eq_of_toNat_eq
  rw [BitVec.toNat_sub, BitVec.toNat_ofNat, BitVec.toNat_ofNat, BitVec.toNat_ofNat]
  simp only [show (2 : Nat) ^ 32 = 4294967296 from rfl]
  omega
theorem nI_c65 (x : Nat) : ((nI x).toUInt32 % 65536).toInt32 = nI (x % 65536) := by
  rw [pk_char]
  show nI ((BitVec.ofNat 32 x).toNat % 65536) = _
  rw [BitVec.toNat_ofNat]
  congr 1
  omega
theorem lN_l2i (n : Nat) : (lN n).toInt32 = nI n := lN_i n
theorem nI_z {n : Nat} (h : n % 4294967296 ≠ 0) : ¬ nI n = 0 := by
  intro q
  have := nI_int n
  rw [q, Int32.toInt_zero] at this
  split at this <;> omega
theorem lN_z {n : Nat} (h : n % 18446744073709551616 ≠ 0) : ¬ lN n = 0 := by
  intro q
  have := lN_int n
  rw [q] at this
  have e0 : (0 : Int64).toInt = 0 := rfl
  rw [e0] at this
  split at this <;> omega
theorem xr1 {n : Nat} (h : n < 65536) : narrow .char (.int (nI n)) = .int (nI n) := (pk_charN h).1
theorem xr2 {n : Nat} (h : n < 128) : narrow .byte (.int (nI n)) = .int (nI n) := by
  show Value.int (nI n).toInt8.toInt32 = _
  have e : (nI n).toInt8.toInt32 = nI n := by
    apply Int32.toInt_inj.mp
    rw [nI_toInt (by omega)]
    show ((nI n).toInt8).toInt32.toInt = _
    rw [Int8.toInt_toInt32, Int32.toInt_toInt8, nI_toInt (by omega)]
    rw [Int.bmod_eq_of_le (by omega) (by omega)]
  rw [e]
