/-! One instruction, whichever it is; splits; runs -/
section Exe
variable (h0 : xheap) (tyt : Lean.RArray (Nat × Nat)) (typs : Lean.RArray (Nat × aty)) (HK : aenv → List ae → List am → List gho → Nat → ae → ae → Int × Int → Int × Int) (HS : aenv → List ae → List am → List gho → Nat → ae → ae → av → List gho) (WOK : aenv → List ae → Nat → ae → ae → Bool) (WOA : aenv → List ae → Nat → ae → Bool)
variable (HA : aenv → List ae → List am → List gho → Nat → ae → Nat → ae → ae → ae → ae → List gho)
variable (cd : xcd) (mi : xmi) (el : Nat → Nat) (eb : Nat → List Nat) (inl : Nat → Bool)
variable (SM : Nat → Nat → List av → List am → aenv → List ae → List gho → Nat → (Option av → List am → aenv → List ae → List gho → Nat → Bool) → Bool) (RT : Option av → List am → aenv → List ae → List gho → Nat → Bool)
variable (fl : Nat → Nat → Nat) (spl : Nat → Nat → Option (Nat × Nat × Nat × Nat × List Int)) (y0 : Nat) (ct : Nat → Bool) (CU : Nat → Nat → List (Nat × av) → List av → List am → aenv → List ae → List gho → Nat → Bool)
noncomputable def aexe (rec : aF) (ins : Instr) (nx tg r1 r2 y dd pc : Nat) (ls : List (Nat × av)) (st : List av) (fr : List afr) (mem : List am) (env : aenv) (fx : List ae) (gh : List gho) (ne : Nat) : Bool :=
  match ins with
  | .iconst _ => cond (Nat.blt r1 4294967296) (a_psh rec nx y dd ls st fr mem env fx gh ne (sI r1)) false
  | .bipush _ => cond (Nat.blt r1 4294967296) (a_psh rec nx y dd ls st fr mem env fx gh ne (sI r1)) false
  | .sipush _ => cond (Nat.blt r1 4294967296) (a_psh rec nx y dd ls st fr mem env fx gh ne (sI r1)) false
  | .ldc_w _ => cond (Nat.blt r1 4294967296) (a_psh rec nx y dd ls st fr mem env fx gh ne (sI r1)) false
  | .ldc _ => cond (Nat.beq r2 0) (cond (Nat.blt r1 4294967296) (a_psh rec nx y dd ls st fr mem env fx gh ne (sI r1)) false) (cond (Nat.beq r2 1) (rec y dd nx ls ((6, 1, (0, [])) :: st) fr mem env fx gh ne) (cond (Nat.beq r2 2) (rec y dd nx ls ((6, 3, (0, [])) :: st) fr mem env fx gh ne) false))
  | .lconst _ => cond (Nat.blt r1 18446744073709551616) (a_pshL rec nx y dd ls st fr mem env fx gh ne (sL r1)) false
  | .ldc2_w _ => cond (Nat.blt r1 18446744073709551616) (a_pshL rec nx y dd ls st fr mem env fx gh ne (sL r1)) false
  | .aconst_null => rec y dd nx ls ((5, 0, (0, [])) :: st) fr mem env fx gh ne
  | .iload _ => a_ld rec nx r1 y dd ls st fr mem env fx gh ne 0 0
  | .iload_n _ => a_ld rec nx r1 y dd ls st fr mem env fx gh ne 0 0
  | .lload _ => a_ld rec nx r1 y dd ls st fr mem env fx gh ne 1 1
  | .lload_n _ => a_ld rec nx r1 y dd ls st fr mem env fx gh ne 1 1
  | .aload _ => a_ld rec nx r1 y dd ls st fr mem env fx gh ne 2 3
  | .aload_n _ => a_ld rec nx r1 y dd ls st fr mem env fx gh ne 2 3
  | .istore _ => a_st rec nx r1 y dd ls st fr mem env fx gh ne 0 0 xk1
  | .istore_n _ => a_st rec nx r1 y dd ls st fr mem env fx gh ne 0 0 xk1
  | .lstore _ => a_st rec nx r1 y dd ls st fr mem env fx gh ne 1 1 xk2
  | .lstore_n _ => a_st rec nx r1 y dd ls st fr mem env fx gh ne 1 1 xk2
  | .astore _ => a_st rec nx r1 y dd ls st fr mem env fx gh ne 2 2 xk1
  | .astore_n _ => a_st rec nx r1 y dd ls st fr mem env fx gh ne 2 2 xk1
  | .iinc _ _ => a_inc rec nx r1 r2 y dd ls st fr mem env fx gh ne
  | .iadd => a_add rec nx y dd ls st fr mem env fx gh ne 0 (-2147483648) 2147483647 1
  | .isub => a_add rec nx y dd ls st fr mem env fx gh ne 0 (-2147483648) 2147483647 (-1)
  | .imul => a_mul rec nx y dd ls st fr mem env fx gh ne 0 (-2147483648) 2147483647
  | .idiv => a_div rec nx y dd ls st fr mem env fx gh ne 0 (-2147483648) 2147483647
  | .irem => a_rem rec nx y dd ls st fr mem env fx gh ne 0 (Nat.beq (fl y pc) 2)
  | .ineg => a_cnv rec nx y dd ls st fr mem env fx gh ne 0 0 (-2147483648) 2147483647 (-1)
  | .iand => a_bit rec nx y dd ls st fr mem env fx gh ne (fun x z => x &&& z) bdand (Nat.beq (fl y pc) 3)
  | .ior => a_bit rec nx y dd ls st fr mem env fx gh ne (fun x z => x ||| z) bdor false
  | .ishl => a_bit rec nx y dd ls st fr mem env fx gh ne (fun x z => x <<< (z &&& 31)) bdshl false
  | .ishr => a_bit rec nx y dd ls st fr mem env fx gh ne (fun x z => x >>> (z &&& 31)) bdshr false
  | .iushr => a_bit rec nx y dd ls st fr mem env fx gh ne (fun x z => (x.toUInt32 >>> (z.toUInt32 &&& Int32.toUInt32 31)).toInt32) bdful false
  | .ladd => a_add rec nx y dd ls st fr mem env fx gh ne 2 (-9223372036854775808) 9223372036854775807 1
  | .lsub => a_add rec nx y dd ls st fr mem env fx gh ne 2 (-9223372036854775808) 9223372036854775807 (-1)
  | .lmul => a_mul rec nx y dd ls st fr mem env fx gh ne 2 (-9223372036854775808) 9223372036854775807
  | .ldiv => a_div rec nx y dd ls st fr mem env fx gh ne 2 (-9223372036854775808) 9223372036854775807
  | .lrem => a_rem rec nx y dd ls st fr mem env fx gh ne 2 (Nat.beq (fl y pc) 2)
  | .land => a_lng rec nx y dd ls st fr mem env fx gh ne 2
  | .lor => a_lng rec nx y dd ls st fr mem env fx gh ne 2
  | .lshl => a_lng rec nx y dd ls st fr mem env fx gh ne 0
  | .lshr => a_lng rec nx y dd ls st fr mem env fx gh ne 0
  | .i2l => a_i2l rec nx y dd ls st fr mem env fx gh ne
  | .l2i => a_cnv rec nx y dd ls st fr mem env fx gh ne 2 0 (-2147483648) 2147483647 1
  | .i2b => a_cnv rec nx y dd ls st fr mem env fx gh ne 0 0 (-128) 127 1
  | .i2s => a_cnv rec nx y dd ls st fr mem env fx gh ne 0 0 (-32768) 32767 1
  | .i2c => a_cnv rec nx y dd ls st fr mem env fx gh ne 0 0 0 65535 1
  | .dup => a_dup rec nx y dd ls st fr mem env fx gh ne
  | .pop => a_pop rec nx y dd ls st fr mem env fx gh ne
  | .pop2 => a_pop2 rec nx y dd ls st fr mem env fx gh ne
  | .dup2 => a_dup2 rec nx y dd ls st fr mem env fx gh ne
  | .goto _ => rec y dd tg ls st fr mem env fx gh ne
  | .if_icmp o _ => a_icmp rec nx tg y dd ls st fr mem env fx gh ne (Nat.beq (fl y pc) 1) o
  | .ifCond o _ => a_if rec nx tg y dd ls st fr mem env fx gh ne (Nat.beq (fl y pc) 1) o
  | .ifnull _ => a_nul rec nx tg y dd ls st fr mem env fx gh ne true
  | .ifnonnull _ => a_nul rec nx tg y dd ls st fr mem env fx gh ne false
  | .lcmp => a_lcmp rec nx y dd ls st fr mem env fx gh ne
  | .tableswitch a b e f => a_tab rec y dd pc ls st fr mem env fx gh ne a b e f
  | .lookupswitch a b => a_lkp rec y dd pc ls st fr mem env fx gh ne a b
  | .getfield _ => a_get h0 typs HK rec nx r1 r2 y dd ls st fr mem env fx gh ne
  | .putfield _ => a_put typs HS WOK rec nx tg r1 r2 y dd ls st fr mem env fx gh ne
  | .getstatic _ => cond (Nat.beq r1 0) (rec y dd nx ls ((0, 0, (1, [])) :: st) fr mem env fx gh ne) (rec y dd nx ls ((10, 0, (0, [])) :: st) fr mem env fx gh ne)
  | .arraylength => a_len typs el rec nx y dd ls st fr mem env fx gh ne
  | .iaload => a_ald h0 typs HK el eb rec nx y dd ls st fr mem env fx gh ne 13
  | .laload => a_ald h0 typs HK el eb rec nx y dd ls st fr mem env fx gh ne 14
  | .baload => a_ald h0 typs HK el eb rec nx y dd ls st fr mem env fx gh ne 15
  | .aaload => a_ald h0 typs HK el eb rec nx y dd ls st fr mem env fx gh ne 20
  | .iastore => a_ast typs HS WOK rec nx y dd ls st fr mem env fx gh ne 13
  | .lastore => a_ast typs HS WOK rec nx y dd ls st fr mem env fx gh ne 14
  | .bastore => a_ast typs HS WOK rec nx y dd ls st fr mem env fx gh ne 15
  | .invokevirtual _ => a_call typs mi inl SM rec nx r1 y dd ls st fr mem env fx gh ne true
  | .invokestatic _ => cond (Nat.beq r2 8) (a_cpy typs WOA HA rec nx y dd ls st fr mem env fx gh ne) (a_call typs mi inl SM rec nx r1 y dd ls st fr mem env fx gh ne false)
  | .return_ => a_vret mi RT rec y dd st fr mem env fx gh ne
  | .ireturn => a_iret mi RT rec y dd st fr mem env fx gh ne
  | .lreturn => a_lret mi RT rec y dd st fr mem env fx gh ne
  | _ => false
/-- below, at, above each of the numbers -/
noncomputable def aspv (e : ae) (K : aenv → List ae → Bool) : List Int → aenv → List ae → Bool
  | [], env, fx => K env fx
  | q :: l, env, fx => efrc (eadc e (Int.neg q)) (fun x => cond (acnd .eq env fx x K) (cond (acnd .lt env fx x K) (acnd .gt env fx x (fun env fx => aspv e K l env fx)) false) false)
noncomputable def asp (y pc : Nat) (ls : List (Nat × av)) (mem : List am) (env : aenv) (fx : List ae) (gh : List gho) (ne : Nat) (K : List am → aenv → List ae → Nat → Bool) : Bool :=
  match spl y pc with
  | none => K mem env fx ne
  | some q => cond (Nat.beq q.1 0)
      (match alk ls q.2.1 with
        | none => false
        | some v => cond (cond (Nat.beq v.1 0) true (Nat.beq v.1 2)) (aspv v.2.2 (fun env fx => K mem env fx ne) q.2.2.2.2 env fx) false)
      (match xg tyt q.2.2.1 with
        | none => false
        | some t => match xg typs t with
          | none => false
          | some T => cond (Nat.beq t q.2.1 && Nat.blt q.2.2.2.1 T.2.1) (aload h0 typs HK t ((q.2.2.1 : Int), []) ((q.2.2.2.1 : Int), []) mem env fx gh ne (fun v mem env ne => cond (Nat.beq v.1 0) (aspv v.2.2 (fun env fx => K mem env fx ne) q.2.2.2.2 env fx) false)) false)
/-- the instruction at pc -/
noncomputable def aone (rec : aF) : aF := fun y dd pc ls st fr mem env fx gh ne =>
  match xg cd y with
  | none => false
  | some t => match xg t pc with
    | none => false
    | some e => asp h0 tyt typs HK spl y pc ls mem env fx gh ne (fun mem env fx ne => aexe h0 typs HK HS WOK WOA HA mi el eb inl SM RT fl rec e.1 e.2.1 e.2.2.1 e.2.2.2.1 e.2.2.2.2 y dd pc ls st fr mem env fx gh ne)
noncomputable def astp (rec : aF) : aF := fun y dd pc ls st fr mem env fx gh ne =>
  match fr with
  | [] => cond (cond (Nat.beq y y0) (ct pc) false) (CU dd pc ls st mem env fx gh ne) (aone h0 tyt typs HK HS WOK WOA HA cd mi el eb inl SM RT fl spl rec y dd pc ls st [] mem env fx gh ne)
  | q :: l => aone h0 tyt typs HK HS WOK WOA HA cd mi el eb inl SM RT fl spl rec y dd pc ls st (q :: l) mem env fx gh ne
noncomputable def arun (f : Nat) : aF := Nat.rec (motive := fun _ => aF) (fun _ _ _ _ _ _ _ _ _ _ _ => false) (fun _ r => astp h0 tyt typs HK HS WOK WOA HA cd mi el eb inl SM RT fl spl y0 ct CU r) f
end Exe
theorem aspv_ok {P : (Nat → Int) → Prop} (hP : ∃ ρ, P ρ) {e : ae} {K : aenv → List ae → Bool} {z : Int} (hz : ∀ ρ, P ρ → ev ρ e = z) : ∀ (l : List Int) (env : aenv) (fx : List ae), aspv e K l env fx = true → (∀ ρ, P ρ → envR env ρ ∧ fxR fx ρ) → ∃ env' fx', K env' fx' = true ∧ ∀ ρ, P ρ → envR env' ρ ∧ fxR fx' ρ
  | [], env, fx, h, hR => ⟨env, fx, h, hR⟩
  | q :: l, env, fx, h, hR => by
    unfold aspv at h
    rw [efrc_eq] at h
    obtain ⟨h1, h2⟩ := xcnb h
    obtain ⟨h3, h4⟩ := xcnb h2
    have hev : ∀ ρ, P ρ → ev ρ (eadc e (Int.neg q)) = z - q := fun ρ p => by rw [eadc_ev, hz ρ p]; show z + -q = _; omega
    have go : ∀ (o : Jvm.ClassFile.Cond) (k : aenv → List ae → Bool), crel o (z - q) 0 = true → acnd o env fx (eadc e (Int.neg q)) k = true → ∃ env' fx', k env' fx' = true ∧ ∀ ρ, P ρ → envR env' ρ ∧ fxR fx' ρ := fun o k m1 m2 => acnd_ok hP m2 (fun ρ p => ⟨(hR ρ p).1, (hR ρ p).2, by rw [hev ρ p]; exact m1⟩)
    by_cases e1 : z = q
    · exact go .eq K (decide_eq_true (by omega)) h1
    · by_cases e2 : z < q
      · exact go .lt K (decide_eq_true (by omega)) h3
      · obtain ⟨env', fx', m1, m2⟩ := go .gt _ (decide_eq_true (by omega)) h4
        exact aspv_ok hP hz l env' fx' m1 m2
