/-! Each row of the code's tables is right -/
theorem xgl (C : String) (T : u_T) (k : Nat) : goodWord (u_lay C T k) = true := by
  unfold u_lay
  split <;> rfl
theorem xran {n : Nat} {f : Nat → Bool} (h : (List.range n).all f = true) {j : Nat} (hj : j < n) : f j = true := List.all_eq_true.mp h j (List.mem_range.mpr hj)
theorem xuws {C : String} {T : u_T} {N : Nat} {g : Nat → Nat} (h : (List.range N).all (fun k => xmem (g k) (u_lay C T k)) = true) : ∀ w ∈ u_ws C T N, w ∈ xgw := by
  intro w hw
  obtain ⟨k, hk, rfl⟩ := List.mem_map.mp hw
  exact xmem_ok (xran h (List.mem_range.mp hk)) (xgl C T k)
theorem xdfl {ty : Nat → FieldType} {N : Nat} {t : xct} (h : (List.range N).all (fun j => match xg t j with
  | none => false
  | some w => xdv (ty j) w) = true) : ∀ j, j < N → ∃ w : xv, xg t j = some w ∧ xdv (ty j) w = true := by
  intro j hj
  have h1 := xran h hj
  cases hg : xg t j with
  | none => rw [hg] at h1; cases h1
  | some w => rw [hg] at h1; exact ⟨w, rfl, h1⟩
def xCf (ci : Nat) (C : String) (T : u_T) (N : Nat) : Prop := (∀ w ∈ u_ws C T N, w ∈ xgw) ∧ (∀ j, j < N → parseFieldDescriptor (T j).2.2.1 = some (xtyf ci j)) ∧ (∀ a, a < N → ∀ b, b < N → a ≠ b → (T a).2.1 ≠ (T b).2.1) ∧ Cond.instantiable C N ∈ xgw ∧ Cond.initialized C ∈ xgw ∧ ci < 13 ∧ ∃ q : Nat × xct, xg xobj ci = some q ∧ q.1 = N ∧ ∀ j, j < N → ∃ w : xv, xg q.2 j = some w ∧ xdv (xtyf ci j) w = true
theorem xcf_0 : xCf 0 RX0 TX0 12 := ⟨xuws xcl_0.1, tyX0_ok, nmX0, xmem_ok xcl_0.2.1 rfl, xmem_ok xcl_0.2.2.1 rfl, by decide, (12, xo_0), rfl, rfl, xdfl xcl_0.2.2.2⟩
theorem xcf_1 : xCf 1 RX1 TX1 8 := ⟨xuws xcl_1.1, tyX1_ok, nmX1, xmem_ok xcl_1.2.1 rfl, xmem_ok xcl_1.2.2.1 rfl, by decide, (8, xo_1), rfl, rfl, xdfl xcl_1.2.2.2⟩
theorem xcf_2 : xCf 2 RX2 TX2 7 := ⟨xuws xcl_2.1, tyX2_ok, nmX2, xmem_ok xcl_2.2.1 rfl, xmem_ok xcl_2.2.2.1 rfl, by decide, (7, xo_2), rfl, rfl, xdfl xcl_2.2.2.2⟩
theorem xcf_3 : xCf 3 RX3 TX3 11 := ⟨xuws xcl_3.1, tyX3_ok, nmX3, xmem_ok xcl_3.2.1 rfl, xmem_ok xcl_3.2.2.1 rfl, by decide, (11, xo_3), rfl, rfl, xdfl xcl_3.2.2.2⟩
theorem xcf_4 : xCf 4 RX4 TX4 7 := ⟨xuws xcl_4.1, tyX4_ok, nmX4, xmem_ok xcl_4.2.1 rfl, xmem_ok xcl_4.2.2.1 rfl, by decide, (7, xo_4), rfl, rfl, xdfl xcl_4.2.2.2⟩
theorem xcf_5 : xCf 5 RX5 TX5 12 := ⟨xuws xcl_5.1, tyX5_ok, nmX5, xmem_ok xcl_5.2.1 rfl, xmem_ok xcl_5.2.2.1 rfl, by decide, (12, xo_5), rfl, rfl, xdfl xcl_5.2.2.2⟩
theorem xcf_6 : xCf 6 RX6 TX6 9 := ⟨xuws xcl_6.1, tyX6_ok, nmX6, xmem_ok xcl_6.2.1 rfl, xmem_ok xcl_6.2.2.1 rfl, by decide, (9, xo_6), rfl, rfl, xdfl xcl_6.2.2.2⟩
theorem xcf_7 : xCf 7 RX7 TX7 12 := ⟨xuws xcl_7.1, tyX7_ok, nmX7, xmem_ok xcl_7.2.1 rfl, xmem_ok xcl_7.2.2.1 rfl, by decide, (12, xo_7), rfl, rfl, xdfl xcl_7.2.2.2⟩
theorem xcf_8 : xCf 8 RX8 TX8 4 := ⟨xuws xcl_8.1, tyX8_ok, nmX8, xmem_ok xcl_8.2.1 rfl, xmem_ok xcl_8.2.2.1 rfl, by decide, (4, xo_8), rfl, rfl, xdfl xcl_8.2.2.2⟩
theorem xcf_9 : xCf 9 RX9 TX9 11 := ⟨xuws xcl_9.1, tyX9_ok, nmX9, xmem_ok xcl_9.2.1 rfl, xmem_ok xcl_9.2.2.1 rfl, by decide, (11, xo_9), rfl, rfl, xdfl xcl_9.2.2.2⟩
theorem xcf_10 : xCf 10 RX10 TX10 5 := ⟨xuws xcl_10.1, tyX10_ok, nmX10, xmem_ok xcl_10.2.1 rfl, xmem_ok xcl_10.2.2.1 rfl, by decide, (5, xo_10), rfl, rfl, xdfl xcl_10.2.2.2⟩
theorem xcf_11 : xCf 11 RX11 TX11 18 := ⟨xuws xcl_11.1, tyX11_ok, nmX11, xmem_ok xcl_11.2.1 rfl, xmem_ok xcl_11.2.2.1 rfl, by decide, (18, xo_11), rfl, rfl, xdfl xcl_11.2.2.2⟩
theorem xcf_12 : xCf 12 RX12 TX12 40 := ⟨xuws xcl_12.1, tyX12_ok, nmX12, xmem_ok xcl_12.2.1 rfl, xmem_ok xcl_12.2.2.1 rfl, by decide, (40, xo_12), rfl, rfl, xdfl xcl_12.2.2.2⟩
theorem xclf : ∀ (ci : Nat) (C : String) (T : u_T) (N : Nat), vwCl[ci]? = some (C, T, N) → xCf ci C T N
  | 0, _, _, _, h => by cases h; exact xcf_0
  | 1, _, _, _, h => by cases h; exact xcf_1
  | 2, _, _, _, h => by cases h; exact xcf_2
  | 3, _, _, _, h => by cases h; exact xcf_3
  | 4, _, _, _, h => by cases h; exact xcf_4
  | 5, _, _, _, h => by cases h; exact xcf_5
  | 6, _, _, _, h => by cases h; exact xcf_6
  | 7, _, _, _, h => by cases h; exact xcf_7
  | 8, _, _, _, h => by cases h; exact xcf_8
  | 9, _, _, _, h => by cases h; exact xcf_9
  | 10, _, _, _, h => by cases h; exact xcf_10
  | 11, _, _, _, h => by cases h; exact xcf_11
  | 12, _, _, _, h => by cases h; exact xcf_12
  | _ + 13, _, _, _, h => by cases h
noncomputable def xkey (y i : Nat) : Nat := xon y * 4096 + i
noncomputable def xokF (y i r1 r2 : Nat) : Bool := Nat.blt i 4096 && match xg xXF (xkey y i) with
  | none => false
  | some v => Nat.beq v.1 r1 && Nat.beq v.2.1 r2
noncomputable def xokL (y i r1 r2 : Nat) : Bool := Nat.blt i 4096 && match xg xXL (xkey y i) with
  | none => false
  | some v => Nat.beq v.1 r1 && Nat.beq v.2.2 r2
noncomputable def xokK (y i r1 : Nat) : Bool := Nat.blt i 4096 && match xg xXK (xkey y i) with
  | none => false
  | some v => Nat.beq v.1 r1
noncomputable def xokC (y i r1 : Nat) : Bool := Nat.blt i 4096 && match xg xXC (xkey y i) with
  | none => false
  | some v => Nat.beq v.1 r1
noncomputable def xokD (y i r1 : Nat) : Bool := Nat.blt i 4096 && match xg xXD (xkey y i) with
  | none => false
  | some v => Nat.beq v.1 r1
noncomputable def xknd (z k : Nat) : Bool := match xg xXM z with
  | none => false
  | some v => Nat.beq v.2.1 k && Nat.blt 0 z
noncomputable def xml (y : Nat) : Nat := (xu xmeth y).2.2.2.2.2
noncomputable def xrk (y : Nat) : Nat := (xu xmeth y).2.2.2.2.1
noncomputable def xokI (y pc : Nat) (ins : Instr) (len tg r1 r2 : Nat) : Bool :=
  match ins with
  | .iconst k => Nat.beq len 1 && decide (Int32.ofInt k = nI r1)
  | .bipush k => Nat.beq len 2 && decide ((Int8.ofInt k).toInt32 = nI r1)
  | .sipush k => Nat.beq len 3 && decide ((Int16.ofInt k).toInt32 = nI r1)
  | .lconst k => Nat.beq len 1 && decide (Int64.ofNat (k : Nat) = lN r1)
  | .ldc i => Nat.beq len 2 && cond (Nat.beq r2 0) (xokC y i r1) (cond (Nat.beq r2 1) (Nat.beq (xon y) 7 && Nat.beq i 51) (Nat.beq (xon y) 12 && Nat.beq i 174))
  | .ldc_w i => Nat.beq len 3 && xokC y i r1
  | .ldc2_w i => Nat.beq len 3 && xokD y i r1
  | .iload i => Nat.beq len 2 && Nat.beq i r1
  | .lload i => Nat.beq len 2 && Nat.beq i r1
  | .aload i => Nat.beq len 2 && Nat.beq i r1
  | .iload_n k => Nat.beq len 1 && Nat.beq k.val r1
  | .lload_n k => Nat.beq len 1 && Nat.beq k.val r1
  | .aload_n k => Nat.beq len 1 && Nat.beq k.val r1
  | .istore i => Nat.beq len 2 && (Nat.beq i r1 && Nat.blt r1 (xml y))
  | .astore i => Nat.beq len 2 && (Nat.beq i r1 && Nat.blt r1 (xml y))
  | .lstore i => Nat.beq len 2 && (Nat.beq i r1 && Nat.blt (r1 + 1) (xml y))
  | .istore_n k => Nat.beq len 1 && (Nat.beq k.val r1 && Nat.blt r1 (xml y))
  | .astore_n k => Nat.beq len 1 && (Nat.beq k.val r1 && Nat.blt r1 (xml y))
  | .lstore_n k => Nat.beq len 1 && (Nat.beq k.val r1 && Nat.blt (r1 + 1) (xml y))
  | .iinc i k => Nat.beq len 3 && (Nat.beq i r1 && (Nat.blt r1 (xml y) && decide (Int32.ofInt k = nI r2)))
  | .goto off => Nat.beq len 3 && decide ((pc : Int) + off = (tg : Int))
  | .if_icmp _ off => Nat.beq len 3 && decide ((pc : Int) + off = (tg : Int))
  | .ifCond _ off => Nat.beq len 3 && decide ((pc : Int) + off = (tg : Int))
  | .ifnull off => Nat.beq len 3 && decide ((pc : Int) + off = (tg : Int))
  | .ifnonnull off => Nat.beq len 3 && decide ((pc : Int) + off = (tg : Int))
  | .tableswitch _ lo hi _ => decide (-2147483648 ≤ lo ∧ hi < 2147483648 ∧ lo ≤ hi)
  | .lookupswitch _ ps => (ps.toList.zip (ps.toList.drop 1)).all (fun (a, next) => a.1 < next.1)
  | .getfield i => Nat.beq len 3 && xokF y i r1 r2
  | .putfield i => Nat.beq len 3 && (xokF y i r1 r2 && (Nat.blt r1 13 && (Nat.beq (xtc (xtyf r1 r2)) tg && (match vwCl[r1]? with
    | none => false
    | some r => !(r.2.1 r2).2.2.2 || (decide ((xnm y).name = "<init>") && decide ((r.2.1 r2).1 = (xnm y).cls))))))
  | .getstatic i => Nat.beq len 3 && (Nat.beq (xon y) 14 && cond (Nat.beq r1 0) (Nat.beq i 38) (Nat.beq i 1053))
  | .new i => Nat.beq len 3 && xokK y i r1
  | .newarray ty => Nat.beq len 2 && (decide (ty = .int) && (Nat.beq r1 13 && Nat.beq r2 0) || (decide (ty = .long) && (Nat.beq r1 14 && Nat.beq r2 1) || decide (ty = .byte) && (Nat.beq r1 15 && Nat.beq r2 0)))
  | .anewarray i => Nat.beq len 3 && (Nat.ble 20 r1 && (xokK y i (r1 - 20) && (match vwCl[r1 - 20]? with
    | none => false
    | some r => decide (r.1 ∈ xovr))))
  | .invokevirtual i => Nat.beq len 3 && (Nat.beq r2 0 && (xokL y i r1 0 && xknd r1 1))
  | .invokespecial i => Nat.beq len 3 && (xokL y i r1 r2 && (Nat.beq r2 6 || (xknd r1 2 && (Nat.beq r2 0 || Nat.beq r2 5))))
  | .invokestatic i => Nat.beq len 3 && (xokL y i r1 r2 && (Nat.beq r2 8 || (xknd r1 3 && Nat.beq r2 0)))
  | .return_ => Nat.beq len 1 && (!(Nat.beq (xrk y) 0) || decide (xrtt y = none))
  | .ireturn => Nat.beq len 1 && ((!(Nat.beq (xrk y) 1) || decide (xrtt y = some .int)) && ((!(Nat.beq (xrk y) 3) || decide (xrtt y = some .boolean)) && ((!(Nat.beq (xrk y) 4) || decide (xrtt y = some .char)) && (!(Nat.beq (xrk y) 5) || decide (xrtt y = some .byte)))))
  | .lreturn => Nat.beq len 1 && (!(Nat.beq (xrk y) 2) || decide (xrtt y = some .long))
  | _ => Nat.beq len 1
theorem ximp {a b : Bool} {P Q : Prop} (h : (!a || b) = true) (ha : P → a = true) (hb : b = true → Q) : P → Q := by
  intro hp
  rw [ha hp] at h
  exact hb h
theorem xbt {a b : Nat} (h : a = b) : Nat.beq a b = true := by rw [h]; exact Nat.beq_refl b
set_option maxRecDepth 100000 in
theorem xfix : xmem xhS0 (.fieldLink "java/lang/String" 38 "java/lang/String" "COMPACT_STRINGS" "Z") = true ∧ xmem xhS1 (.fieldLink "java/lang/String" 1053 "jdk/internal/util/Preconditions" "SIOOBE_FORMATTER" "Ljava/util/function/BiFunction;") = true ∧ xmem xhI (.instanceMethod objectInit) = true ∧ xmem xhC (.code objectInit ⟨#[0xb1]⟩ 1 none) = true ∧ xmem xhN (.native arraycopyName) = true ∧ xmem xhT (.static arraycopyName) = true ∧ xmem xhY (.initialized "java/lang/System") = true ∧ xmem 244 (.arrayClass .int) = true ∧ xmem 245 (.arrayClass .long) = true ∧ xmem 243 (.arrayClass .byte) = true := by decide +kernel
theorem xkd1 {y i : Nat} (h : i < 4096) : xkey y i / 4096 = xon y ∧ xkey y i % 4096 = i := by unfold xkey; omega
theorem xokF_ok {y i r1 r2 : Nat} (h : xokF y i r1 r2 = true) : i < 4096 ∧ ∃ hh, xkF (xkey y i) (r1, r2, hh) = true := by
  unfold xokF at h
  obtain ⟨h1, h2⟩ := xand h
  cases hg : xg xXF (xkey y i) with
  | none => rw [hg] at h2; cases h2
  | some v =>
    rw [hg] at h2
    obtain ⟨g1, g2⟩ := xand h2
    obtain ⟨a, b, c⟩ := v
    have e1 : a = r1 := xeqb g1
    have e2 : b = r2 := xeqb g2
    subst e1; subst e2
    exact ⟨xltb h1, c, xall_get xXF xkF xF_ok _ _ hg⟩
theorem xokL_ok {y i r1 r2 : Nat} (h : xokL y i r1 r2 = true) : i < 4096 ∧ ∃ hh, xkL (xkey y i) (r1, hh, r2) = true := by
  unfold xokL at h
  obtain ⟨h1, h2⟩ := xand h
  cases hg : xg xXL (xkey y i) with
  | none => rw [hg] at h2; cases h2
  | some v =>
    rw [hg] at h2
    obtain ⟨g1, g2⟩ := xand h2
    obtain ⟨a, b, c⟩ := v
    have e1 : a = r1 := xeqb g1
    have e2 : c = r2 := xeqb g2
    subst e1; subst e2
    exact ⟨xltb h1, b, xall_get xXL xkL xL_ok _ _ hg⟩
theorem xokK_ok {y i r1 : Nat} (h : xokK y i r1 = true) : i < 4096 ∧ ∃ hh, xkK (xkey y i) (r1, hh) = true := by
  unfold xokK at h
  obtain ⟨h1, h2⟩ := xand h
  cases hg : xg xXK (xkey y i) with
  | none => rw [hg] at h2; cases h2
  | some v =>
    rw [hg] at h2
    obtain ⟨a, b⟩ := v
    have e1 : a = r1 := xeqb h2
    subst e1
    exact ⟨xltb h1, b, xall_get xXK xkK xK_ok _ _ hg⟩
theorem xokC_ok {y i r1 : Nat} (h : xokC y i r1 = true) : i < 4096 ∧ ∃ hh, xkC (xkey y i) (r1, hh) = true := by
  unfold xokC at h
  obtain ⟨h1, h2⟩ := xand h
  cases hg : xg xXC (xkey y i) with
  | none => rw [hg] at h2; cases h2
  | some v =>
    rw [hg] at h2
    obtain ⟨a, b⟩ := v
    have e1 : a = r1 := xeqb h2
    subst e1
    exact ⟨xltb h1, b, xall_get xXC xkC xC_ok _ _ hg⟩
theorem xokD_ok {y i r1 : Nat} (h : xokD y i r1 = true) : i < 4096 ∧ ∃ hh, xkD (xkey y i) (r1, hh) = true := by
  unfold xokD at h
  obtain ⟨h1, h2⟩ := xand h
  cases hg : xg xXD (xkey y i) with
  | none => rw [hg] at h2; cases h2
  | some v =>
    rw [hg] at h2
    obtain ⟨a, b⟩ := v
    have e1 : a = r1 := xeqb h2
    subst e1
    exact ⟨xltb h1, b, xall_get xXD xkD xD_ok _ _ hg⟩
/-- a method by its row -/
theorem xMz {z k : Nat} (h : xknd z k = true) : xMok xmeth xby xnm xrtt xgw z ∧ ∃ v : Nat × Nat × Nat × Nat × Nat × Nat, v.2.1 = k ∧ (match v.2.1 with
        | 1 => xmem v.2.2.2.2.1 (.instanceMethod (xnm z)) && xmem v.2.2.2.2.2 (.selects (xnm z).cls (xnm z) (xnm z)) && cond (Nat.blt (xu xmeth z).2.2.2.1 13) (match vwCl[(xu xmeth z).2.2.2.1]? with
          | none => false
          | some r => decide (r.1 = (xnm z).cls)) (decide ((xnm z).cls = "java/lang/String"))
        | 2 => xmem v.2.2.2.2.1 (.instanceMethod (xnm z)) && decide ((xnm z).name = "<init>") && decide (xrtt z = none)
        | _ => xmem v.2.2.2.2.1 (.static (xnm z))) = true := by
  unfold xknd at h
  cases hg : xg xXM z with
  | none => rw [hg] at h; cases h
  | some v =>
    rw [hg] at h
    obtain ⟨h1, h2⟩ := xand h
    have hz : z ≠ 0 := by have := xltb h2; omega
    have hm : xkM z v = true := xall_get xXM xkM xM_ok _ _ hg
    unfold xkM at hm
    obtain ⟨-, m2⟩ := xand hm
    have m2 := (xor2 m2).resolve_left (fun q => hz (xeqb q))
    obtain ⟨m3, m4⟩ := xand m2
    obtain ⟨m5, m6⟩ := xand m3
    obtain ⟨m7, m8⟩ := xand m5
    obtain ⟨m9, m10⟩ := xand m7
    obtain ⟨m11, m12⟩ := xand m9
    obtain ⟨m13, m14⟩ := xand m11
    have hw := (xallP_get xXM _ xW_ok z v hg).resolve_left hz
    exact ⟨⟨hw, xmem_ok m13 rfl, m14, of_decide_eq_true m12, of_decide_eq_true m10, of_decide_eq_true m8, xleb m6⟩, v, xeqb h1, m4⟩
set_option maxHeartbeats 4000000 in
theorem xokI_ok {y pc : Nat} {ins : Instr} {len tg r1 r2 : Nat} (hcl : (xnm y).cls = xcn (xon y)) (h : xokI y pc ins len tg r1 r2 = true) : xI vwCl xnest xtxt xovr xmeth xobj xby xnm xrtt xgw y pc ins len tg r1 r2 := by
  cases ins with
  | iconst k => exact ⟨xeqb (xand h).1, of_decide_eq_true (xand h).2⟩
  | bipush k => exact ⟨xeqb (xand h).1, of_decide_eq_true (xand h).2⟩
  | sipush k => exact ⟨xeqb (xand h).1, of_decide_eq_true (xand h).2⟩
  | lconst k => exact ⟨xeqb (xand h).1, of_decide_eq_true (xand h).2⟩
  | ldc i =>
    obtain ⟨h1, h2⟩ := xand h
    refine ⟨xeqb h1, fun e => ?_, fun e => ?_, fun e => ?_⟩
    · rw [xbt e] at h2
      obtain ⟨g1, hh, g2⟩ := xokC_ok h2
      have := xmem_ok g2 rfl
      rw [(xkd1 g1).1, (xkd1 g1).2, ← hcl] at this
      exact this
    · subst e
      obtain ⟨g1, g2⟩ := xand (show (Nat.beq (xon y) 7 && Nat.beq i 51) = true from h2)
      rw [hcl, xeqb g1, xeqb g2]
      exact ⟨rfl, rfl⟩
    · subst e
      obtain ⟨g1, g2⟩ := xand (show (Nat.beq (xon y) 12 && Nat.beq i 174) = true from h2)
      rw [hcl, xeqb g1, xeqb g2]
      exact ⟨rfl, rfl⟩
  | ldc_w i =>
    obtain ⟨h1, h2⟩ := xand h
    obtain ⟨g1, hh, g2⟩ := xokC_ok h2
    have := xmem_ok g2 rfl
    rw [(xkd1 g1).1, (xkd1 g1).2, ← hcl] at this
    exact ⟨xeqb h1, this⟩
  | ldc2_w i =>
    obtain ⟨h1, h2⟩ := xand h
    obtain ⟨g1, hh, g2⟩ := xokD_ok h2
    have := xmem_ok g2 rfl
    rw [(xkd1 g1).1, (xkd1 g1).2, ← hcl] at this
    exact ⟨xeqb h1, this⟩
  | iload i => exact ⟨xeqb (xand h).1, xeqb (xand h).2⟩
  | lload i => exact ⟨xeqb (xand h).1, xeqb (xand h).2⟩
  | aload i => exact ⟨xeqb (xand h).1, xeqb (xand h).2⟩
  | iload_n i => exact ⟨xeqb (xand h).1, xeqb (xand h).2⟩
  | lload_n i => exact ⟨xeqb (xand h).1, xeqb (xand h).2⟩
  | aload_n i => exact ⟨xeqb (xand h).1, xeqb (xand h).2⟩
  | istore i => exact ⟨xeqb (xand h).1, xeqb (xand (xand h).2).1, xltb (xand (xand h).2).2⟩
  | astore i => exact ⟨xeqb (xand h).1, xeqb (xand (xand h).2).1, xltb (xand (xand h).2).2⟩
  | lstore i => exact ⟨xeqb (xand h).1, xeqb (xand (xand h).2).1, xltb (xand (xand h).2).2⟩
  | istore_n i => exact ⟨xeqb (xand h).1, xeqb (xand (xand h).2).1, xltb (xand (xand h).2).2⟩
  | astore_n i => exact ⟨xeqb (xand h).1, xeqb (xand (xand h).2).1, xltb (xand (xand h).2).2⟩
  | lstore_n i => exact ⟨xeqb (xand h).1, xeqb (xand (xand h).2).1, xltb (xand (xand h).2).2⟩
  | iinc i k => exact ⟨xeqb (xand h).1, xeqb (xand (xand h).2).1, xltb (xand (xand (xand h).2).2).1, of_decide_eq_true (xand (xand (xand h).2).2).2⟩
  | goto off => exact ⟨xeqb (xand h).1, of_decide_eq_true (xand h).2⟩
  | if_icmp o off => exact ⟨xeqb (xand h).1, of_decide_eq_true (xand h).2⟩
  | ifCond o off => exact ⟨xeqb (xand h).1, of_decide_eq_true (xand h).2⟩
  | ifnull off => exact ⟨xeqb (xand h).1, of_decide_eq_true (xand h).2⟩
  | ifnonnull off => exact ⟨xeqb (xand h).1, of_decide_eq_true (xand h).2⟩
  | tableswitch a lo hi b =>
    have h2 : -2147483648 ≤ lo ∧ hi < 2147483648 ∧ lo ≤ hi := of_decide_eq_true (show decide (-2147483648 ≤ lo ∧ hi < 2147483648 ∧ lo ≤ hi) = true from h)
    exact h2
  | lookupswitch a ps => exact h
  | getfield i =>
    obtain ⟨h1, h2⟩ := xand h
    obtain ⟨g1, hh, g2⟩ := xokF_ok h2
    unfold xkF at g2
    rw [(xkd1 g1).1, (xkd1 g1).2, ← hcl] at g2
    refine ⟨xeqb h1, fun e => ?_, fun e => ?_⟩
    · rw [show Nat.blt r1 13 = true from Nat.ble_eq_true_of_le e] at g2
      simp only [cond_true] at g2
      cases hv : vwCl[r1]? with
      | none => rw [hv] at g2; cases g2
      | some r =>
        rw [hv] at g2
        obtain ⟨C, T, N⟩ := r
        obtain ⟨g3, g4⟩ := xand g2
        exact ⟨C, T, N, hv, xltb g3, xmem_ok g4 rfl, (xclf _ _ _ _ hv).1⟩
    · subst e
      simp only [show Nat.blt 98 13 = false from rfl, cond_false] at g2
      obtain ⟨-, g3⟩ := xand g2
      refine ⟨fun e2 => ?_, fun e2 => ?_⟩
      · rw [xbt e2] at g3; exact xmem_ok g3 rfl
      · cases hb : Nat.beq r2 0 with
        | true => exact absurd (xeqb hb) e2
        | false => rw [hb] at g3; exact xmem_ok g3 rfl
  | putfield i =>
    obtain ⟨h1, h2⟩ := xand h
    obtain ⟨h3, h4⟩ := xand h2
    obtain ⟨h5, h6⟩ := xand h4
    obtain ⟨h7, h8⟩ := xand h6
    obtain ⟨g1, hh, g2⟩ := xokF_ok h3
    unfold xkF at g2
    rw [(xkd1 g1).1, (xkd1 g1).2, ← hcl] at g2
    simp only [show Nat.blt r1 13 = true from h5, cond_true] at g2
    cases hv : vwCl[r1]? with
    | none => rw [hv] at g2; cases g2
    | some r =>
      rw [hv] at g2 h8
      obtain ⟨C, T, N⟩ := r
      obtain ⟨g3, g4⟩ := xand g2
      have hc := xclf _ _ _ _ hv
      refine ⟨xeqb h1, xltb h5, C, T, N, xtyf r1, hv, xltb g3, xmem_ok g4 rfl, hc.1, hc.2.1, hc.2.2.1, xeqb h7, fun e => ?_⟩
      dsimp only at h8
      rw [e] at h8
      obtain ⟨a1, a2⟩ := xand (show (decide ((xnm y).name = "<init>") && decide ((T r2).1 = (xnm y).cls)) = true from h8)
      exact ⟨of_decide_eq_true a1, of_decide_eq_true a2⟩
  | getstatic i =>
    obtain ⟨h1, h2⟩ := xand h
    obtain ⟨h3, h4⟩ := xand h2
    have hn : (xnm y).cls = "java/lang/String" := by rw [hcl, xeqb h3]; rfl
    rw [show xI vwCl xnest xtxt xovr xmeth xobj xby xnm xrtt xgw y pc (.getstatic i) len tg r1 r2 = (len = 3 ∧ (r1 = 0 → Cond.fieldLink (xnm y).cls i "java/lang/String" "COMPACT_STRINGS" "Z" ∈ xgw) ∧ (r1 ≠ 0 → Cond.fieldLink (xnm y).cls i "jdk/internal/util/Preconditions" "SIOOBE_FORMATTER" "Ljava/util/function/BiFunction;" ∈ xgw)) from rfl, hn]
    refine ⟨xeqb h1, fun e => ?_, fun e => ?_⟩
    · rw [xbt e] at h4
      rw [xeqb h4]
      exact xmem_ok xfix.1 rfl
    · cases hb : Nat.beq r1 0 with
      | true => exact absurd (xeqb hb) e
      | false =>
        rw [hb] at h4
        rw [xeqb h4]
        exact xmem_ok xfix.2.1 rfl
  | new i =>
    obtain ⟨h1, h2⟩ := xand h
    obtain ⟨g1, hh, g2⟩ := xokK_ok h2
    unfold xkK at g2
    rw [(xkd1 g1).1, (xkd1 g1).2, ← hcl] at g2
    cases hv : vwCl[r1]? with
    | none => rw [hv] at g2; cases g2
    | some r =>
      rw [hv] at g2
      obtain ⟨C, T, N⟩ := r
      obtain ⟨c1, c2, c3, c4, c5, c6, q, c7, c8, c9⟩ := xclf _ _ _ _ hv
      exact ⟨xeqb h1, C, T, N, xtyf r1, q, hv, c6, c1, c2, xmem_ok g2 rfl, c4, c5, c7, c8, c9⟩
  | newarray ty =>
    obtain ⟨h1, h2⟩ := xand h
    obtain ⟨f1, f2, f3⟩ := xfix.2.2.2.2.2.2.2
    rcases xor2 h2 with h3 | h3
    · obtain ⟨a1, a2⟩ := xand h3
      have e : ty = .int := of_decide_eq_true a1
      subst e
      exact ⟨xeqb h1, xmem_ok f1 rfl, Or.inl ⟨rfl, xeqb (xand a2).1, xeqb (xand a2).2⟩⟩
    · rcases xor2 h3 with h3 | h3
      · obtain ⟨a1, a2⟩ := xand h3
        have e : ty = .long := of_decide_eq_true a1
        subst e
        exact ⟨xeqb h1, xmem_ok f2 rfl, Or.inr (Or.inl ⟨rfl, xeqb (xand a2).1, xeqb (xand a2).2⟩)⟩
      · obtain ⟨a1, a2⟩ := xand h3
        have e : ty = .byte := of_decide_eq_true a1
        subst e
        exact ⟨xeqb h1, xmem_ok f3 rfl, Or.inr (Or.inr ⟨rfl, xeqb (xand a2).1, xeqb (xand a2).2⟩)⟩
  | anewarray i =>
    obtain ⟨h1, h2⟩ := xand h
    obtain ⟨h3, h4⟩ := xand h2
    obtain ⟨h5, h6⟩ := xand h4
    obtain ⟨g1, hh, g2⟩ := xokK_ok h5
    unfold xkK at g2
    rw [(xkd1 g1).1, (xkd1 g1).2, ← hcl] at g2
    cases hv : vwCl[r1 - 20]? with
    | none => rw [hv] at h6; cases h6
    | some r =>
      rw [hv] at g2 h6
      exact ⟨xeqb h1, xleb h3, r, hv, xmem_ok g2 rfl, of_decide_eq_true h6⟩
  | invokevirtual i =>
    obtain ⟨h1, h2⟩ := xand h
    obtain ⟨h3, h4⟩ := xand h2
    obtain ⟨h5, h6⟩ := xand h4
    obtain ⟨g1, hh, g2⟩ := xokL_ok h5
    unfold xkL at g2
    rw [(xkd1 g1).1, (xkd1 g1).2, ← hcl] at g2
    obtain ⟨mok, v, k1, k2⟩ := xMz h6
    rw [k1] at k2
    obtain ⟨k3, k4⟩ := xand k2
    obtain ⟨k5, k6⟩ := xand k3
    refine ⟨xeqb h1, mok, xmem_ok g2 rfl, xmem_ok k5 rfl, xmem_ok k6 rfl, fun e => ?_, fun e => ?_⟩
    · rw [show Nat.blt (xu xmeth r1).2.2.2.1 13 = true from Nat.ble_eq_true_of_le e] at k4
      simp only [cond_true] at k4
      cases hv : vwCl[(xu xmeth r1).2.2.2.1]? with
      | none => rw [hv] at k4; cases k4
      | some r => rw [hv] at k4; exact ⟨r, rfl, of_decide_eq_true k4⟩
    · rw [e] at k4
      exact of_decide_eq_true k4
  | invokespecial i =>
    obtain ⟨h1, h2⟩ := xand h
    obtain ⟨h3, h4⟩ := xand h2
    obtain ⟨g1, hh, g2⟩ := xokL_ok h3
    unfold xkL at g2
    rw [(xkd1 g1).1, (xkd1 g1).2, ← hcl] at g2
    refine ⟨xeqb h1, fun e => ?_, fun e => ?_⟩
    · subst e
      exact ⟨xmem_ok g2 rfl, xmem_ok xfix.2.2.1 rfl, xmem_ok xfix.2.2.2.1 rfl⟩
    · have h5 := (xor2 h4).resolve_left (fun q => e (xeqb q))
      obtain ⟨h6, h7⟩ := xand h5
      obtain ⟨mok, v, k1, k2⟩ := xMz h6
      rw [k1] at k2
      obtain ⟨k3, k4⟩ := xand k2
      obtain ⟨k5, k6⟩ := xand k3
      refine ⟨mok, of_decide_eq_true k4, of_decide_eq_true k6, xmem_ok k5 rfl, fun e5 => ?_, fun e5 => ?_⟩
      · have e0 : r2 = 0 := (xor2 h7).elim xeqb (fun q => absurd (xeqb q) e5)
        subst e0
        exact xmem_ok g2 rfl
      · subst e5
        exact ⟨"OathTill", of_decide_eq_true g2⟩
  | invokestatic i =>
    obtain ⟨h1, h2⟩ := xand h
    obtain ⟨h3, h4⟩ := xand h2
    obtain ⟨g1, hh, g2⟩ := xokL_ok h3
    unfold xkL at g2
    rw [(xkd1 g1).1, (xkd1 g1).2, ← hcl] at g2
    refine ⟨xeqb h1, fun e => ?_, fun e => ?_⟩
    · subst e
      exact ⟨xmem_ok g2 rfl, xmem_ok xfix.2.2.2.2.1 rfl, xmem_ok xfix.2.2.2.2.2.1 rfl, xmem_ok xfix.2.2.2.2.2.2.1 rfl⟩
    · have h5 := (xor2 h4).resolve_left (fun q => e (xeqb q))
      obtain ⟨h6, h7⟩ := xand h5
      obtain ⟨mok, v, k1, k2⟩ := xMz h6
      rw [k1] at k2
      have e0 : r2 = 0 := xeqb h7
      subst e0
      exact ⟨mok, xmem_ok g2 rfl, xmem_ok k2 rfl⟩
  | return_ => exact ⟨xeqb (xand h).1, ximp (xand h).2 (fun e => xbt e) of_decide_eq_true⟩
  | ireturn =>
    obtain ⟨h1, h2⟩ := xand h
    obtain ⟨h3, h4⟩ := xand h2
    obtain ⟨h5, h6⟩ := xand h4
    obtain ⟨h7, h8⟩ := xand h6
    exact ⟨xeqb h1, ximp h3 (fun e => xbt e) of_decide_eq_true, ximp h5 (fun e => xbt e) of_decide_eq_true, ximp h7 (fun e => xbt e) of_decide_eq_true, ximp h8 (fun e => xbt e) of_decide_eq_true⟩
  | lreturn => exact ⟨xeqb (xand h).1, ximp (xand h).2 (fun e => xbt e) of_decide_eq_true⟩
  | _ => exact xeqb h
noncomputable def xokE (y pc : Nat) (e : xins) : Bool := Nat.ble pc e.2.1 && (decide (decode (xby y) pc = .ok (e.1, e.2.1 - pc)) && xokI y pc e.1 (e.2.1 - pc) e.2.2.1 e.2.2.2.1 e.2.2.2.2)
noncomputable def xokT (y : Nat) (t : Lean.RArray (Nat × xins)) : Bool := decide ((xnm y).cls = xcn (xon y)) && xall t (xokE y)
theorem xOK_of (h : xall xcode xokT = true) : xOK vwCl xnest xtxt xovr xcode xmeth xobj xby xnm xrtt xgw := by
  intro y t pc e hy ht
  obtain ⟨h1, h2⟩ := xand (xall_get xcode xokT h y t hy)
  have h3 := xall_get t (xokE y) h2 pc e ht
  obtain ⟨h4, h5⟩ := xand h3
  obtain ⟨h6, h7⟩ := xand h5
  have h8 := xleb h4
  exact ⟨e.2.1 - pc, by omega, of_decide_eq_true h6, xokI_ok (of_decide_eq_true h1) h7⟩
