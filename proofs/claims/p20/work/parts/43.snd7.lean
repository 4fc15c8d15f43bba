/-! Every instruction is right; so are the runs -/
section Snd7
variable {sv : Nat → Int32} {cd : xcd} {mi : xmi} {df : xdf} {el ec : Nat → Nat} {eb : Nat → List Nat} {G : xG} {h0 : xheap} {n0 : Nat} {cn0 sn0 : Nat → Nat} {Q : cg → Option cv → Prop}
variable {tyt : Lean.RArray (Nat × Nat)} {typs : Lean.RArray (Nat × aty)} {GS : gho → (Nat → Int) → cg → Prop} {FX : (Nat → Int) → Nat → cg → Prop} {wc : Nat → Nat → Prop}
variable {HK : aenv → List ae → List am → List gho → Nat → ae → ae → Int × Int → Int × Int} {HS : aenv → List ae → List am → List gho → Nat → ae → ae → av → List gho} {WOK : aenv → List ae → Nat → ae → ae → Bool} {WOA : aenv → List ae → Nat → ae → Bool} {HA : aenv → List ae → List am → List gho → Nat → ae → Nat → ae → ae → ae → ae → List gho} {inl : Nat → Bool}
variable {SM : Nat → Nat → List av → List am → aenv → List ae → List gho → Nat → (Option av → List am → aenv → List ae → List gho → Nat → Bool) → Bool} {RT : Option av → List am → aenv → List ae → List gho → Nat → Bool}
variable {fl : Nat → Nat → Nat} {spl : Nat → Nat → Option (Nat × Nat × Nat × Nat × List Int)} {ct : Nat → Bool} {CU : Nat → Nat → List (Nat × av) → List av → List am → aenv → List ae → List gho → Nat → Bool}
variable {rec : aF} {y d dd pc nx tg r1 r2 : Nat} {ins : Instr} {ls : List (Nat × av)} {st : List av} {fr : List afr} {mem : List am} {env : aenv} {fx : List ae} {gh : List gho} {ne : Nat} {ρ : Nat → Int} {g : cg} {lsc : List (Nat × cv)} {stc : List cv} {frc : List cfr}
/-- all that is asked of the tables, the ghosts, the writes -/
def aOK (sv : Nat → Int32) (cd : xcd) (mi : xmi) (df : xdf) (el ec : Nat → Nat) (eb : Nat → List Nat) (G : xG) (h0 : xheap) (n0 : Nat) (cn0 sn0 : Nat → Nat) (Q : cg → Option cv → Prop) (tyt : Lean.RArray (Nat × Nat)) (typs : Lean.RArray (Nat × aty)) (GS : gho → (Nat → Int) → cg → Prop) (FX : (Nat → Int) → Nat → cg → Prop) (wc : Nat → Nat → Prop)
    (HK : aenv → List ae → List am → List gho → Nat → ae → ae → Int × Int → Int × Int) (HS : aenv → List ae → List am → List gho → Nat → ae → ae → av → List gho) (WOK : aenv → List ae → Nat → ae → ae → Bool) (WOA : aenv → List ae → Nat → ae → Bool) (HA : aenv → List ae → List am → List gho → Nat → ae → Nat → ae → ae → ae → ae → List gho)
    (SM : Nat → Nat → List av → List am → aenv → List ae → List gho → Nat → (Option av → List am → aenv → List ae → List gho → Nat → Bool) → Bool) (RT : Option av → List am → aenv → List ae → List gho → Nat → Bool) : Prop :=
  cW sv cd mi df el eb G ∧ aFXm FX ∧ (∀ (ρ : Nat → Int) (ne : Nat) (g : cg) (k j : Nat) (z : Int), FX ρ ne g → wc k j → FX ρ ne (cup g k j z)) ∧ (∀ (ρ : Nat → Int) (ne : Nat) (g : cg) (ka kb s d n : Nat), FX ρ ne g → (∀ j, wc kb j) → FX ρ ne (ccp g ka kb s d n)) ∧ cH0 h0 ∧ aWd h0 tyt typs ∧ aGS0 sv el ec GS ∧ aHK h0 tyt GS HK ∧ aHS h0 tyt GS HS ∧ aWOK tyt WOK wc ∧ aHA h0 tyt GS HA ∧ aWOA tyt WOA wc ∧ aSM G h0 n0 tyt typs GS FX SM ∧ aRT h0 tyt typs GS FX Q RT ∧ (∀ (y : Nat) (q : Nat × Nat × Nat × Nat × Nat × Nat), xg mi y = some q → cn0 y ≤ q.1 ∧ sn0 y ≤ q.2.1) ∧ (∀ y t, xg cd y = some t → ∃ q, xg mi y = some q)
set_option maxHeartbeats 4000000 in
theorem aexe_ok (hOK : aOK sv cd mi df el ec eb G h0 n0 cn0 sn0 Q tyt typs GS FX wc HK HS WOK WOA HA SM RT) (hrec : aSnd G h0 n0 cn0 sn0 Q tyt typs GS FX rec) (hc : cC cd y pc (ins, nx, tg, r1, r2)) (hγ : aGm h0 tyt typs GS FX ρ ls st fr mem env fx gh ne g lsc stc frc) (hd : dd ≤ d)
    (h : aexe h0 typs HK HS WOK WOA HA mi ec eb inl SM RT fl rec ins nx tg r1 r2 y dd pc ls st fr mem env fx gh ne = true) : cTF G h0 n0 cn0 sn0 Q frc y d pc lsc stc g := by
  obtain ⟨hG, hF, hFS, hFC, h00, hW, hGS, hHK, hHS, hWO, hHA, hWA, hSM, hRT, hmi, hmy⟩ := hOK
  have hy : ∃ q, xg mi y = some q := by obtain ⟨t, t1, -⟩ := hc; exact hmy y t t1
  have psh : ∀ {i : Instr}, cC cd y pc (i, nx, tg, r1, r2) → (∀ (rec : xF) (lx : List (Nat × xv)) (sx : List xv) (h : xheap), xex mi df el eb rec i nx tg r1 r2 y d pc lx sx [] h n0 (cn0 y) (sn0 y) = rec y d nx lx ((0, r1) :: sx) [] h n0 (cn0 y) (sn0 y)) → (∀ (lf : dlf) (sx : List cv) (g : cg), dnx h0 sv mi el eb i nx tg r1 r2 pc lf sx g = dnxt nx lf ((0, (nI r1).toInt) :: sx) g) → cond (Nat.blt r1 4294967296) (a_psh rec nx y dd ls st fr mem env fx gh ne (sI r1)) false = true → cTF G h0 n0 cn0 sn0 Q frc y d pc lsc stc g := fun hc he hdn h => by
    obtain ⟨h1, h2⟩ := xcnb h
    exact a_psh_ok hG hF hrec hc hγ hd he hdn (xltb h1) h2
  have pshL : ∀ {i : Instr}, cC cd y pc (i, nx, tg, r1, r2) → (∀ (rec : xF) (lx : List (Nat × xv)) (sx : List xv) (h : xheap), xex mi df el eb rec i nx tg r1 r2 y d pc lx sx [] h n0 (cn0 y) (sn0 y) = rec y d nx lx ((2, r1) :: sx) [] h n0 (cn0 y) (sn0 y)) → (∀ (lf : dlf) (sx : List cv) (g : cg), dnx h0 sv mi el eb i nx tg r1 r2 pc lf sx g = dnxt nx lf ((2, (lN r1).toInt) :: sx) g) → cond (Nat.blt r1 18446744073709551616) (a_pshL rec nx y dd ls st fr mem env fx gh ne (sL r1)) false = true → cTF G h0 n0 cn0 sn0 Q frc y d pc lsc stc g := fun hc he hdn h => by
    obtain ⟨h1, h2⟩ := xcnb h
    exact a_pshL_ok hG hF hrec hc hγ hd he hdn (xltb h1) h2
  cases ins with
  | iconst k => exact psh hc (fun _ _ _ _ => rfl) (fun lf sx g => d_k0 nx r1 lf sx g) h
  | bipush k => exact psh hc (fun _ _ _ _ => rfl) (fun lf sx g => d_k0 nx r1 lf sx g) h
  | sipush k => exact psh hc (fun _ _ _ _ => rfl) (fun lf sx g => d_k0 nx r1 lf sx g) h
  | ldc_w k => exact psh hc (fun _ _ _ _ => rfl) (fun lf sx g => d_k0 nx r1 lf sx g) h
  | lconst k => exact pshL hc (fun _ _ _ _ => rfl) (fun lf sx g => d_k2 nx r1 lf sx g) h
  | ldc2_w k => exact pshL hc (fun _ _ _ _ => rfl) (fun lf sx g => d_k2 nx r1 lf sx g) h
  | ldc k =>
    have h : cond (Nat.beq r2 0) (cond (Nat.blt r1 4294967296) (a_psh rec nx y dd ls st fr mem env fx gh ne (sI r1)) false) (cond (Nat.beq r2 1) (rec y dd nx ls ((6, 1, (0, [])) :: st) fr mem env fx gh ne) (cond (Nat.beq r2 2) (rec y dd nx ls ((6, 3, (0, [])) :: st) fr mem env fx gh ne) false)) = true := h
    have hx : ∀ (rec : xF) (lx : List (Nat × xv)) (sx : List xv) (h : xheap), xex mi df el eb rec (.ldc k) nx tg r1 r2 y d pc lx sx [] h n0 (cn0 y) (sn0 y) = cond (Nat.beq r2 0) (rec y d nx lx ((0, r1) :: sx) [] h n0 (cn0 y) (sn0 y)) (cond (Nat.beq r2 1) (rec y d nx lx ((6, 1) :: sx) [] h n0 (cn0 y) (sn0 y)) (cond (Nat.beq r2 2) (rec y d nx lx ((6, 3) :: sx) [] h n0 (cn0 y) (sn0 y)) none)) := fun _ _ _ _ => rfl
    cases h0' : Nat.beq r2 0 with
    | true =>
      rw [h0'] at h
      exact psh hc (fun rec lx sx hp => by rw [hx, h0']; rfl) (fun lf sx g => by show cond (Nat.beq r2 0) _ _ = _; rw [h0']; exact d_k0 nx r1 lf sx g) h
    | false =>
      rw [h0'] at h
      simp only [cond_false] at h
      cases h1' : Nat.beq r2 1 with
      | true =>
        rw [h1'] at h
        exact a_pshV_ok (a := (6, 1, (0, []))) (v := (6, 1)) hG hF hrec hc hγ hd (fun _ => rfl) (fun rec lx sx hp => by rw [hx, h0', h1']; rfl) (fun lf sx g => by show cond (Nat.beq r2 0) _ (cond (Nat.beq r2 1) _ _) = _; rw [h0', h1']; rfl) h
      | false =>
        rw [h1'] at h
        simp only [cond_false] at h
        obtain ⟨h2', h⟩ := xcnb h
        exact a_pshV_ok (a := (6, 3, (0, []))) (v := (6, 3)) hG hF hrec hc hγ hd (fun _ => rfl) (fun rec lx sx hp => by rw [hx, h0', h1', h2']; rfl) (fun lf sx g => by show cond (Nat.beq r2 0) _ (cond (Nat.beq r2 1) _ _) = _; rw [h0', h1']; rfl) h
  | aconst_null => exact a_pshV_ok (a := (5, 0, (0, []))) (v := (5, 0)) hG hF hrec hc hγ hd (fun _ => rfl) (fun _ _ _ _ => rfl) (fun _ _ _ => rfl) h
  | iload i => exact a_ld_ok hG hF hrec hc hγ hd (by decide) (by decide) (fun _ _ _ _ => rfl) (fun _ _ _ => rfl) h
  | iload_n i => exact a_ld_ok hG hF hrec hc hγ hd (by decide) (by decide) (fun _ _ _ _ => rfl) (fun _ _ _ => rfl) h
  | lload i => exact a_ld_ok hG hF hrec hc hγ hd (by decide) (by decide) (fun _ _ _ _ => rfl) (fun _ _ _ => rfl) h
  | lload_n i => exact a_ld_ok hG hF hrec hc hγ hd (by decide) (by decide) (fun _ _ _ _ => rfl) (fun _ _ _ => rfl) h
  | aload i => exact a_ld_ok hG hF hrec hc hγ hd (by decide) (by decide) (fun _ _ _ _ => rfl) (fun _ _ _ => rfl) h
  | aload_n i => exact a_ld_ok hG hF hrec hc hγ hd (by decide) (by decide) (fun _ _ _ _ => rfl) (fun _ _ _ => rfl) h
  | istore i => exact a_st_ok hG hF hrec hc hγ hd (by decide) (by decide) xk1_0 xk1_kd xk1_z (fun _ _ _ _ => rfl) (fun _ _ _ => rfl) h
  | istore_n i => exact a_st_ok hG hF hrec hc hγ hd (by decide) (by decide) xk1_0 xk1_kd xk1_z (fun _ _ _ _ => rfl) (fun _ _ _ => rfl) h
  | lstore i => exact a_st_ok hG hF hrec hc hγ hd (by decide) (by decide) xk2_0 xk2_kd xk2_z (fun _ _ _ _ => rfl) (fun _ _ _ => rfl) h
  | lstore_n i => exact a_st_ok hG hF hrec hc hγ hd (by decide) (by decide) xk2_0 xk2_kd xk2_z (fun _ _ _ _ => rfl) (fun _ _ _ => rfl) h
  | astore i => exact a_st_ok hG hF hrec hc hγ hd (by decide) (by decide) xk1_0 xk1_kd xk1_z (fun _ _ _ _ => rfl) (fun _ _ _ => rfl) h
  | astore_n i => exact a_st_ok hG hF hrec hc hγ hd (by decide) (by decide) xk1_0 xk1_kd xk1_z (fun _ _ _ _ => rfl) (fun _ _ _ => rfl) h
  | iinc i z => exact a_inc_ok hG hF hrec hγ hd hc h
  | iadd => exact a_addI_ok (F := fun x z => x + z) hG hF hrec hc hγ hd (fun _ _ _ _ => rfl) (fun lf sx g => d_adi_ok i32_add nx lf sx g) (fun a b => by rw [x32, nI_add]) (fun a b => by rw [i32_add, Int.one_mul]) h
  | isub => exact a_addI_ok (F := fun x z => x - z) hG hF hrec hc hγ hd (fun _ _ _ _ => rfl) (fun lf sx g => d_adi_ok i32_sub nx lf sx g) (fun a b => nI_sub a b) (fun a b => by rw [i32_sub]; congr 1; omega) h
  | imul => exact a_mulI_ok hG hF hrec hγ hd hc h
  | idiv => exact a_divI_ok hG hF hrec hγ hd hc h
  | irem => exact a_remI_ok hG hF hrec hγ hd hc h
  | ineg => exact a_cnvI_ok (F := fun x => -x) hG hF hrec hc hγ hd (fun _ _ _ _ => rfl) (fun _ _ _ => rfl) (fun a => nI_xnu _) (fun X => by have := cI_of (-X); unfold cI at this; omega) (fun x hx b1 b2 => by rw [i32_neg, i32_int (by unfold cI; omega)]; omega) h
  | iand => exact a_bit_ok (F := fun x z => x &&& z) hG hF hrec hc hγ hd (fun _ _ _ _ => rfl) (fun _ _ _ => rfl) (fun a b => nI_xnu _) bdand_ok (fun _ x z hx hz z0 => (iand_r (i32 x) hz z0).2) h
  | ior => exact a_bit_ok (F := fun x z => x ||| z) hG hF hrec hc hγ hd (fun _ _ _ _ => rfl) (fun _ _ _ => rfl) (fun a b => nI_xnu _) bdor_ok (fun z => by cases z) h
  | ishl => exact a_bit_ok (F := fun x z => x <<< (z &&& 31)) hG hF hrec hc hγ hd (fun _ _ _ _ => rfl) (fun _ _ _ => rfl) (fun a b => nI_xnu _) bdshl_ok (fun z => by cases z) h
  | ishr => exact a_bit_ok (F := fun x z => x >>> (z &&& 31)) hG hF hrec hc hγ hd (fun _ _ _ _ => rfl) (fun _ _ _ => rfl) (fun a b => nI_xnu _) bdshr_ok (fun z => by cases z) h
  | iushr => exact a_bit_ok (F := fun x z => (x.toUInt32 >>> (z.toUInt32 &&& Int32.toUInt32 31)).toInt32) hG hF hrec hc hγ hd (fun _ _ _ _ => rfl) (fun _ _ _ => rfl) (fun a b => nI_xnu _) (fun x z ia ib _ _ _ _ _ _ => bdful_ok _ ia ib) (fun z => by cases z) h
  | ladd => exact a_addL_ok (F := fun x z => x + z) hG hF hrec hc hγ hd (fun _ _ _ _ => rfl) (fun lf sx g => d_adl_ok i64_add nx lf sx g) (fun a b => lN_xnl _) (fun a b => by rw [i64_add, Int.one_mul]) h
  | lsub => exact a_addL_ok (F := fun x z => x - z) hG hF hrec hc hγ hd (fun _ _ _ _ => rfl) (fun lf sx g => d_adl_ok i64_sub nx lf sx g) (fun a b => lN_xnl _) (fun a b => by rw [i64_sub]; congr 1; omega) h
  | lmul => exact a_mulL_ok hG hF hrec hγ hd hc h
  | ldiv => exact a_divL_ok hG hF hrec hγ hd hc h
  | lrem => exact a_remL_ok hG hF hrec hγ hd hc h
  | land => exact a_lngB_ok (F := fun x z => x &&& z) hG hF hrec hc hγ hd (fun _ _ _ _ => rfl) (fun _ _ _ => rfl) (fun a b => lN_xnl _) h
  | lor => exact a_lngB_ok (F := fun x z => x ||| z) hG hF hrec hc hγ hd (fun _ _ _ _ => rfl) (fun _ _ _ => rfl) (fun a b => lN_xnl _) h
  | lshl => exact a_lngS_ok (F := fun x z => x <<< (z.toInt64 &&& 63)) hG hF hrec hc hγ hd (fun _ _ _ _ => rfl) (fun _ _ _ => rfl) (fun a b => lN_xnl _) h
  | lshr => exact a_lngS_ok (F := fun x z => x >>> (z.toInt64 &&& 63)) hG hF hrec hc hγ hd (fun _ _ _ _ => rfl) (fun _ _ _ => rfl) (fun a b => lN_xnl _) h
  | i2l => exact a_i2l_ok hG hF hrec hγ hd hc h
  | l2i => exact a_l2i_ok hG hF hrec hγ hd hc h
  | i2b => exact a_cnvI_ok (F := fun x => x.toInt8.toInt32) hG hF hrec hc hγ hd (fun _ _ _ _ => rfl) (fun _ _ _ => rfl) (fun a => nI_xnu _) i2b_in (fun x hx b1 b2 => by rw [Int.one_mul] at b1 b2 ⊢; exact i2b_id b1 b2) h
  | i2s => exact a_cnvI_ok (F := fun x => x.toInt16.toInt32) hG hF hrec hc hγ hd (fun _ _ _ _ => rfl) (fun _ _ _ => rfl) (fun a => nI_xnu _) i2s_in (fun x hx b1 b2 => by rw [Int.one_mul] at b1 b2 ⊢; exact i2s_id b1 b2) h
  | i2c => exact a_cnvI_ok (F := fun x => (x.toUInt32 % 65536).toInt32) hG hF hrec hc hγ hd (fun _ _ _ _ => rfl) (fun _ _ _ => rfl) (fun a => (nI_c65 a).symm) i2c_in (fun x hx b1 b2 => by rw [Int.one_mul] at b1 b2 ⊢; exact i2c_id b1 b2) h
  | dup => exact a_dup_ok hG hF hrec hγ hd hc h
  | pop => exact a_pop_ok hG hF hrec hγ hd hc h
  | pop2 => exact a_pop2_ok hG hF hrec hγ hd hc h
  | dup2 => exact a_dup2_ok hG hF hrec hγ hd hc h
  | goto o => exact a_goto_ok hG hF hrec hγ hd hc h
  | if_icmp o w => exact a_icmp_ok hG hF hrec hγ hd hc h
  | ifCond o w => exact a_if_ok hG hF hrec hγ hd hc h
  | ifnull o => exact a_nul_ok hG hF hrec hc hγ hd (fun _ _ _ _ => rfl) (fun _ _ _ => rfl) h
  | ifnonnull o => exact a_nul_ok hG hF hrec hc hγ hd (fun _ _ _ _ => rfl) (fun _ _ _ => rfl) h
  | lcmp => exact a_lcmp_ok hG hF hrec hγ hd hc h
  | tableswitch a b e f => exact a_tab_ok hG hF hrec hγ hd hc h
  | lookupswitch a b => exact a_lkp_ok hG hF hrec hγ hd hc h
  | getfield i => exact a_get_ok hG hF hrec hγ hd hW hHK hc h
  | putfield i => exact a_put_ok hG hF hrec hγ hd hFS hW hHS hWO hc h
  | getstatic i =>
    have h : cond (Nat.beq r1 0) (rec y dd nx ls ((0, 0, (1, [])) :: st) fr mem env fx gh ne) (rec y dd nx ls ((10, 0, (0, [])) :: st) fr mem env fx gh ne) = true := h
    have hx : ∀ (rec : xF) (lx : List (Nat × xv)) (sx : List xv) (h : xheap), xex mi df el eb rec (.getstatic i) nx tg r1 r2 y d pc lx sx [] h n0 (cn0 y) (sn0 y) = cond (Nat.beq r1 0) (rec y d nx lx ((0, 1) :: sx) [] h n0 (cn0 y) (sn0 y)) (rec y d nx lx ((10, 0) :: sx) [] h n0 (cn0 y) (sn0 y)) := fun _ _ _ _ => rfl
    cases h0' : Nat.beq r1 0 with
    | true =>
      rw [h0'] at h
      exact a_pshV_ok (v := (0, 1)) hG hF hrec hc hγ hd (fun τ => avR_mk0 (by unfold cI; omega) τ _ (evc τ 1)) (fun rec lx sx hp => by rw [hx, h0']; rfl) (fun lf sx g => by show cond (Nat.beq r1 0) _ _ = _; rw [h0']; rfl) h
    | false =>
      rw [h0'] at h
      exact a_pshV_ok (a := (10, 0, (0, []))) (v := (10, 0)) hG hF hrec hc hγ hd (fun _ => rfl) (fun rec lx sx hp => by rw [hx, h0']; rfl) (fun lf sx g => by show cond (Nat.beq r1 0) _ _ = _; rw [h0']; rfl) h
  | arraylength => exact a_len_ok hG hF hrec hγ hd hGS hW hc h
  | iaload => exact a_ald_ok hG hF hrec hc hγ hd (fun _ _ _ _ => rfl) (fun _ _ _ => rfl) (fun _ => rfl) (fun z => by cases z) hGS hW hHK h
  | laload => exact a_ald_ok hG hF hrec hc hγ hd (fun _ _ _ _ => rfl) (fun _ _ _ => rfl) (fun z => by cases z) (fun z => by cases z) hGS hW hHK h
  | baload => exact a_ald_ok hG hF hrec hc hγ hd (fun _ _ _ _ => rfl) (fun _ _ _ => rfl) (fun z => by cases z) (fun _ => rfl) hGS hW hHK h
  | aaload => exact a_ald_ok hG hF hrec hc hγ hd (fun _ _ _ _ => rfl) (fun _ _ _ => rfl) (fun z => by cases z) (fun z => by cases z) hGS hW hHK h
  | iastore => exact a_ast_ok hG hF hrec hc hγ hd (fun _ _ _ _ => rfl) (fun _ _ _ => rfl) (Or.inl rfl) hFS hW hHS hWO h
  | lastore => exact a_ast_ok hG hF hrec hc hγ hd (fun _ _ _ _ => rfl) (fun _ _ _ => rfl) (Or.inr (Or.inl rfl)) hFS hW hHS hWO h
  | bastore => exact a_ast_ok hG hF hrec hc hγ hd (fun _ _ _ _ => rfl) (fun _ _ _ => rfl) (Or.inr (Or.inr rfl)) hFS hW hHS hWO h
  | invokevirtual i => exact a_call_ok (virt := true) hG hF hrec hc hγ hd hmi hy (fun _ => rfl) (fun _ _ _ _ _ => rfl) (fun _ _ _ => rfl) hW hSM h
  | invokestatic i =>
    have h : cond (Nat.beq r2 8) (a_cpy typs WOA HA rec nx y dd ls st fr mem env fx gh ne) (a_call typs mi inl SM rec nx r1 y dd ls st fr mem env fx gh ne false) = true := h
    have hx : ∀ (d : Nat) (rec : xF) (lx : List (Nat × xv)) (sx : List xv) (h : xheap), xex mi df el eb rec (.invokestatic i) nx tg r1 r2 y d pc lx sx [] h n0 (cn0 y) (sn0 y) = cond (Nat.beq r2 8) (x_cpy rec nx y d lx sx [] h n0 (cn0 y) (sn0 y)) (x_call mi rec nx r1 y d lx sx [] h n0 (cn0 y) (sn0 y) false false) := fun _ _ _ _ _ => rfl
    cases h8 : Nat.beq r2 8 with
    | true =>
      rw [h8] at h
      exact a_cpy_ok hG hF hrec hγ hd h00 hFC hW hHA hWA hc (xeqb h8) h
    | false =>
      rw [h8] at h
      exact a_call_ok (virt := false) hG hF hrec hc hγ hd hmi hy (fun z => by cases z) (fun d rec lx sx hp => by rw [hx, h8]; rfl) (fun lf sx g => by show cond (Nat.beq r2 8) _ _ = _; rw [h8]; rfl) hW hSM h
  | return_ => exact a_vret_ok hG hF hrec hγ hd hRT hc h
  | ireturn => exact a_iret_ok hG hF hrec hγ hd hRT hc h
  | lreturn => exact a_lret_ok hG hF hrec hγ hd hRT hc h
  | _ => cases h
theorem asp_ok (hOK : aOK sv cd mi df el ec eb G h0 n0 cn0 sn0 Q tyt typs GS FX wc HK HS WOK WOA HA SM RT) (hγ : aGm h0 tyt typs GS FX ρ ls st fr mem env fx gh ne g lsc stc frc) {K : List am → aenv → List ae → Nat → Bool} (h : asp h0 tyt typs HK spl y pc ls mem env fx gh ne K = true) :
    ∃ mem' env' fx' ne' ρ', K mem' env' fx' ne' = true ∧ aGm h0 tyt typs GS FX ρ' ls st fr mem' env' fx' gh ne' g lsc stc frc := by
  obtain ⟨hG, hF, hFS, hFC, h00, hW, hGS, hHK, -⟩ := hOK
  unfold asp at h
  cases hs : spl y pc with
  | none => rw [hs] at h; exact ⟨mem, env, fx, ne, ρ, h, hγ⟩
  | some q =>
    rw [hs] at h
    dsimp only at h
    cases hq : Nat.beq q.1 0 with
    | true =>
      rw [hq] at h
      simp only [cond_true] at h
      cases ha : alk ls q.2.1 with
      | none => rw [ha] at h; cases h
      | some v =>
        rw [ha] at h
        obtain ⟨g1, g2⟩ := xcnb h
        obtain ⟨vc, e1, e2⟩ := lsR_lk hγ.gl.self ha
        have hv : aC ne ρ (fun τ => avR tyt τ v vc) := fun τ hτ => by
          obtain ⟨v', e3, e4⟩ := lsR_lk (hγ.gl τ hτ) ha
          have : v' = vc := Option.some.inj (e3.symm.trans e1)
          rw [← this]; exact e4
        obtain ⟨z, hze⟩ : ∃ z, aC ne ρ (fun τ => ev τ v.2.2 = z) := by
          rcases xcnt g1 with q | q
          · obtain ⟨z, -, -, hze⟩ := a_int hv (xeqb q)
            exact ⟨z, hze⟩
          · obtain ⟨z, -, -, hze⟩ := a_lngv hv (xeqb q)
            exact ⟨z, hze⟩
        obtain ⟨env', fx', k1, k2⟩ := aspv_ok (P := aag ne ρ) ⟨ρ, aag.rf ne ρ⟩ hze _ _ _ g2 (fun τ hτ => ⟨(hγ.1 τ hτ).1, (hγ.1 τ hτ).2.1⟩)
        exact ⟨mem, env', fx', ne, ρ, k1, fun τ hτ => coR_env (hγ.1 τ hτ) (k2 τ hτ).1 (k2 τ hτ).2, hγ.2⟩
    | false =>
      rw [hq] at h
      simp only [cond_false] at h
      cases ht : xg tyt q.2.2.1 with
      | none => rw [ht] at h; cases h
      | some t =>
        rw [ht] at h
        dsimp only at h
        obtain ⟨qc, T, w1, w2, w3, w4, w5, w6, w7, w8⟩ := hW _ _ ht
        rw [w2] at h
        obtain ⟨g1, g2⟩ := xcnb h
        obtain ⟨g3, g4⟩ := xand g1
        have hj : q.2.2.2.1 < qc.2.1 := by rw [← w4]; exact xltb g4
        obtain ⟨ww, u, u1, u2, u3, u4⟩ := w8 _ hj
        obtain ⟨v, mem', env', ne', ρ', h1, h2, h3, h4, h5⟩ := aload_ok hW hHK hγ.2.2.1 hγ.1 (fun τ hτ => ⟨evc τ _, evc τ _⟩) ht ⟨qc, ww, w1, u1, rfl⟩ w1 hj g2
        obtain ⟨k0, k1⟩ := xcnb h1
        obtain ⟨z, -, -, hze⟩ := a_int h5 (xeqb k0)
        obtain ⟨env2, fx2, k2, k3⟩ := aspv_ok (P := aag ne' ρ') ⟨ρ', aag.rf ne' ρ'⟩ hze _ _ _ k1 (fun τ hτ => ⟨(h4 τ hτ).1, (h4 τ hτ).2.1⟩)
        exact ⟨mem', env2, fx2, ne', ρ', k2, fun τ hτ => coR_env (h4 τ hτ) (k3 τ hτ).1 (k3 τ hτ).2, hγ.2.1.mono h2 h3, hγ.2.2.1, hF _ _ _ _ _ hγ.2.2.2 h2 h3⟩
theorem aone_ok (hOK : aOK sv cd mi df el ec eb G h0 n0 cn0 sn0 Q tyt typs GS FX wc HK HS WOK WOA HA SM RT) (hrec : aSnd G h0 n0 cn0 sn0 Q tyt typs GS FX rec) : aSnd G h0 n0 cn0 sn0 Q tyt typs GS FX (aone h0 tyt typs HK HS WOK WOA HA cd mi ec eb inl SM RT fl spl rec) := by
  intro y dd pc ls st fr mem env fx gh ne h ρ g lsc stc frc d hγ hd
  unfold aone at h
  cases ht : xg cd y with
  | none => rw [ht] at h; cases h
  | some t =>
    rw [ht] at h
    dsimp only at h
    cases he : xg t pc with
    | none => rw [he] at h; cases h
    | some e =>
      rw [he] at h
      dsimp only at h
      obtain ⟨mem', env', fx', ne', ρ', h1, h2⟩ := asp_ok hOK hγ h
      exact aexe_ok hOK hrec ⟨t, ht, he⟩ h2 hd h1
/-- where the runs are cut -/
def aCU (G : xG) (h0 : xheap) (n0 : Nat) (cn0 sn0 : Nat → Nat) (Q : cg → Option cv → Prop) (tyt : Lean.RArray (Nat × Nat)) (typs : Lean.RArray (Nat × aty)) (GS : gho → (Nat → Int) → cg → Prop) (FX : (Nat → Int) → Nat → cg → Prop) (y0 : Nat) (ct : Nat → Bool) (CU : Nat → Nat → List (Nat × av) → List av → List am → aenv → List ae → List gho → Nat → Bool) : Prop :=
  ∀ (y dd pc : Nat) (ls : List (Nat × av)) (st : List av) (mem : List am) (env : aenv) (fx : List ae) (gh : List gho) (ne : Nat), ct pc = true → CU dd pc ls st mem env fx gh ne = true → ∀ (ρ : Nat → Int) (g : cg) (lsc : List (Nat × cv)) (stc : List cv) (d : Nat), aGm h0 tyt typs GS FX ρ ls st [] mem env fx gh ne g lsc stc [] → dd ≤ d → y = y0 → cTF G h0 n0 cn0 sn0 Q [] y d pc lsc stc g
theorem astp_ok {y0 : Nat} (hOK : aOK sv cd mi df el ec eb G h0 n0 cn0 sn0 Q tyt typs GS FX wc HK HS WOK WOA HA SM RT) (hCU : aCU G h0 n0 cn0 sn0 Q tyt typs GS FX y0 ct CU) (hrec : aSnd G h0 n0 cn0 sn0 Q tyt typs GS FX rec) : aSnd G h0 n0 cn0 sn0 Q tyt typs GS FX (astp h0 tyt typs HK HS WOK WOA HA cd mi ec eb inl SM RT fl spl y0 ct CU rec) := by
  intro y dd pc ls st fr mem env fx gh ne h ρ g lsc stc frc d hγ hd
  unfold astp at h
  cases fr with
  | cons q l => exact aone_ok hOK hrec _ _ _ _ _ _ _ _ _ _ _ h ρ g lsc stc frc d hγ hd
  | nil =>
    dsimp only at h
    cases hb : cond (Nat.beq y y0) (ct pc) false with
    | false => rw [hb] at h; exact aone_ok hOK hrec _ _ _ _ _ _ _ _ _ _ _ h ρ g lsc stc frc d hγ hd
    | true =>
      rw [hb] at h
      obtain ⟨h1, h2⟩ := xcnb hb
      cases frc with
      | cons _ _ => exact ((hγ.2.1.imp (fun _ x => x.2.2)).self).elim
      | nil => exact hCU y dd pc ls st mem env fx gh ne h2 h ρ g lsc stc d hγ hd (xeqb h1)
theorem arun_ok {y0 : Nat} (hOK : aOK sv cd mi df el ec eb G h0 n0 cn0 sn0 Q tyt typs GS FX wc HK HS WOK WOA HA SM RT) (hCU : aCU G h0 n0 cn0 sn0 Q tyt typs GS FX y0 ct CU) : ∀ f : Nat, aSnd G h0 n0 cn0 sn0 Q tyt typs GS FX (arun h0 tyt typs HK HS WOK WOA HA cd mi ec eb inl SM RT fl spl y0 ct CU f)
  | 0 => fun _ _ _ _ _ _ _ _ _ _ _ h => by cases h
  | f + 1 => astp_ok hOK hCU (arun_ok hOK hCU f)
end Snd7
