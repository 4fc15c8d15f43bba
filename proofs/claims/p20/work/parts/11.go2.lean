/-! The step keeps its promise: constants, locals, stack, arithmetic; branches -/
section Inv2
variable {rec : xF} {nx y d pc : Nat} {ls : List (Nat × xv)} {st : List xv} {bx : xbox} {h : xheap} {n c s : Nat} {L : List xleaf}
theorem x_lcmp_ok (hx : x_lcmp rec nx y d pc ls st bx h n c s = some L) : ∃ b a r, st = b :: a :: r ∧ xkd b.1 = 1 ∧ xkd a.1 = 1 ∧
    ((xdec .lt (xrg bx a) (xrg bx b) = some true ∧ rec y d nx ls ((0, 4294967295) :: r) bx h n c s = some L) ∨
     (xdec .lt (xrg bx a) (xrg bx b) = some false ∧ xdec .gt (xrg bx a) (xrg bx b) = some true ∧ rec y d nx ls ((0, 1) :: r) bx h n c s = some L) ∨
     (xdec .lt (xrg bx a) (xrg bx b) = some false ∧ xdec .gt (xrg bx a) (xrg bx b) = some false ∧ rec y d nx ls ((0, 0) :: r) bx h n c s = some L) ∨
     (∃ i q, xspl (fun bx' => rec y d pc ls st bx' h n c s) bx i q = some L) ∨ rec y d nx ls ((7, 0) :: r) bx h n c s = some L) := by
  unfold x_lcmp at hx
  match st, hx with
  | [], hx => cases hx
  | [_], hx => cases hx
  | b :: a :: r, hx =>
    obtain ⟨h1, h2⟩ := xcnd hx
    obtain ⟨g1, g2⟩ := xand h1
    refine ⟨b, a, r, rfl, xeqb g1, xeqb g2, ?_⟩
    cases ha : xdec .lt (xrg bx a) (xrg bx b) with
    | none =>
      rw [ha] at h2
      dsimp only at h2
      cases hp : xpt bx a b with
      | some q => rw [hp] at h2; exact Or.inr (Or.inr (Or.inr (Or.inl ⟨_, _, h2⟩)))
      | none => rw [hp] at h2; exact Or.inr (Or.inr (Or.inr (Or.inr h2)))
    | some t =>
      rw [ha] at h2
      cases t with
      | true => exact Or.inl ⟨rfl, h2⟩
      | false =>
        dsimp only at h2
        cases hb : xdec .gt (xrg bx a) (xrg bx b) with
        | none =>
          rw [hb] at h2
          dsimp only at h2
          cases hp : xpt bx a b with
          | some q => rw [hp] at h2; exact Or.inr (Or.inr (Or.inr (Or.inl ⟨_, _, h2⟩)))
          | none => rw [hp] at h2; exact Or.inr (Or.inr (Or.inr (Or.inr h2)))
        | some t2 =>
          rw [hb] at h2
          cases t2 with
          | true => exact Or.inr (Or.inl ⟨rfl, rfl, h2⟩)
          | false => exact Or.inr (Or.inr (Or.inl ⟨rfl, rfl, h2⟩))
theorem x_tab_ok {dflt lo hi : Int} {offs : Array Int} (hx : x_tab rec y d pc ls st bx h n c s dflt lo hi offs = some L) : ∃ a r, st = a :: r ∧
    ((∃ x t, xci bx a = some x ∧ xts dflt lo hi offs pc (xz x) = some t ∧ rec y d t ls r bx h n c s = some L) ∨
     (a.1 = 1 ∧ ((xbg bx a.2).2 < (lo + 9223372036854775808).toNat ∨ (hi + 9223372036854775808).toNat < (xbg bx a.2).1) ∧ 0 ≤ (pc : Int) + dflt ∧ rec y d ((pc : Int) + dflt).toNat ls r bx h n c s = some L) ∨
     (∃ i q, xspl (fun bx' => rec y d pc ls st bx' h n c s) bx i q = some L)) := by
  unfold x_tab at hx
  match st, hx with
  | [], hx => cases hx
  | a :: r, hx =>
    dsimp only at hx
    refine ⟨a, r, rfl, ?_⟩
    cases hc : xci bx a with
    | some x =>
      rw [hc] at hx
      dsimp only at hx
      cases ht : xts dflt lo hi offs pc (xz x) with
      | none => rw [ht] at hx; cases hx
      | some t => rw [ht] at hx; exact Or.inl ⟨x, t, rfl, ht, hx⟩
    | none =>
      rw [hc] at hx
      obtain ⟨g1, g2⟩ := xcnd hx
      cases hb : (Nat.blt (xbg bx a.2).2 (lo + 9223372036854775808).toNat || Nat.blt (hi + 9223372036854775808).toNat (xbg bx a.2).1) with
      | true =>
        rw [hb] at g2
        simp only [cond_true] at g2
        split at g2
        · rename_i hz
          exact Or.inr (Or.inl ⟨xeqb g1, (xor2 hb).imp xltb xltb, hz, g2⟩)
        · cases g2
      | false =>
        rw [hb] at g2
        exact Or.inr (Or.inr ⟨_, _, g2⟩)
theorem x_lkp_ok {dflt : Int} {ps : Array (Int × Int)} (hx : x_lkp rec y d pc ls st bx h n c s dflt ps = some L) : ∃ a r x, st = a :: r ∧ xci bx a = some x ∧ 0 ≤ (pc : Int) + Op.lookupswitch.offset ps.toList dflt (xz x) ∧ rec y d ((pc : Int) + Op.lookupswitch.offset ps.toList dflt (xz x)).toNat ls r bx h n c s = some L := by
  unfold x_lkp at hx
  match st, hx with
  | [], hx => cases hx
  | a :: r, hx =>
    dsimp only at hx
    cases hc : xci bx a with
    | none => rw [hc] at hx; cases hx
    | some x =>
      rw [hc] at hx
      dsimp only at hx
      split at hx
      · rename_i hz
        exact ⟨a, r, x, rfl, hc, hz, hx⟩
      · cases hx
end Inv2
theorem xts_in {dflt lo hi : Int} {offs : Array Int} {pc t : Nat} {z : Int} (h : xts dflt lo hi offs pc z = some t) : ((z < lo ∨ hi < z) ∧ (pc : Int) + dflt = (t : Int)) ∨ (¬ z < lo ∧ ¬ hi < z ∧ ∃ o, offs[(z - lo).toNat]? = some o ∧ (pc : Int) + o = (t : Int)) := by
  unfold xts at h
  split at h
  · rename_i hz
    split at h
    · cases h; exact Or.inl ⟨hz, by omega⟩
    · cases h
  · rename_i hz
    split at h
    · cases h
    · rename_i o ho
      split at h
      · cases h; exact Or.inr ⟨fun q => hz (Or.inl q), fun q => hz (Or.inr q), o, ho, by omega⟩
      · cases h
section Go2
variable {l : Launch} {D : va_G} {cl : List vw_C} {A : Nat → Prop} {sv : Nat → Int32} {ex : Nat → Nat} {el : Nat → Nat} {eb : Nat → List Nat} {nest : List (String × Nat × MethodName × String)} {txt : Nat → String × Nat × String} {ovr : List String}
variable {mi : xmi} {df : xdf} {bys : Nat → ByteArray} {nm : Nat → MethodName} {rtt : Nat → Option FieldType} {gw : List Cond}
variable {rec : xF} {y d pc : Nat} {ls : List (Nat × xv)} {st : List xv} {bx : xbox} {h : xheap} {n cn sn : Nat} {L : List xleaf}
variable {p : Program} {e : Env} {R : Room} {s : State} {m : MethodId} {args : Array Value} {below : List Frame} {meth : Method} {c : Code} {Q : State → Prop} {as : List Nat} {ws : va_W} {H : Heap} {locs : List Loc} {la : Array Slot} {stv : List Value}
/-- the instructions of a frame alone -/
def xg1 : Instr → Bool
  | .iconst _ => true
  | .bipush _ => true
  | .sipush _ => true
  | .lconst _ => true
  | .ldc _ => true
  | .ldc_w _ => true
  | .ldc2_w _ => true
  | .aconst_null => true
  | .iload _ => true
  | .lload _ => true
  | .aload _ => true
  | .iload_n _ => true
  | .lload_n _ => true
  | .aload_n _ => true
  | .istore _ => true
  | .lstore _ => true
  | .astore _ => true
  | .istore_n _ => true
  | .lstore_n _ => true
  | .astore_n _ => true
  | .iinc _ _ => true
  | .dup => true
  | .pop => true
  | .dup2 => true
  | .pop2 => true
  | _ => false
set_option maxHeartbeats 4000000 in
theorem xf1 (E : xStp l D cl A sv ex el eb nest txt ovr mi bys nm rtt gw rec y d ls st bx h n cn sn L p e R s m args below meth c Q as ws H locs la stv) {ins : Instr} {len tg r1 r2 : Nat} (hg : xg1 ins = true) (hdec : decode (bys y) pc = .ok (ins, len)) (hI : xI cl nest txt ovr mi df bys nm rtt gw y pc ins len tg r1 r2)
    (hx : xex mi df el eb rec ins (pc + len) tg r1 r2 y d pc ls st bx h n cn sn = some L) : W p l e R s m args below meth c H locs cn sn Q (F0 m pc la stv) := by
  obtain ⟨hrec, ⟨hex, hb, hml, hown, hts, hK, hEX, hA, hnm, hRf, hRl, hRc, hRs⟩, hc, hs, ⟨hbx, hh, hP, hD, hS⟩, ⟨⟨lv, hl, hls⟩, hst⟩, hret⟩ := id E
  cases ins with
  | iconst k => obtain ⟨rfl, hv⟩ := hI; exact lv_iconst hex hb hdec hv (xk0 E hx ⟨⟨lv, hl, hls⟩, rfl, hst⟩)
  | bipush k => obtain ⟨rfl, hv⟩ := hI; exact lv_bipush hex hb hdec hv (xk0 E hx ⟨⟨lv, hl, hls⟩, rfl, hst⟩)
  | sipush k => obtain ⟨rfl, hv⟩ := hI; exact lv_sipush hex hb hdec hv (xk0 E hx ⟨⟨lv, hl, hls⟩, rfl, hst⟩)
  | lconst k => obtain ⟨rfl, hv⟩ := hI; exact lv_lconst hex hb hdec hv (xk0 E hx ⟨⟨lv, hl, hls⟩, rfl, hst⟩)
  | ldc i =>
    obtain ⟨rfl, hv1, hv2, hv3⟩ := hI
    have hx : cond (Nat.beq r2 0) (rec y d (pc + 2) ls ((0, r1) :: st) bx h n cn sn) (cond (Nat.beq r2 1) (rec y d (pc + 2) ls ((6, 1) :: st) bx h n cn sn) (cond (Nat.beq r2 2) (rec y d (pc + 2) ls ((6, 3) :: st) bx h n cn sn) none)) = some L := hx
    cases hq : Nat.beq r2 0 with
    | true => rw [hq] at hx; exact lv_ldc hex hb hown (hts _ (hv1 (xeqb hq))) hdec (xk0 E hx ⟨⟨lv, hl, hls⟩, rfl, hst⟩)
    | false =>
      rw [hq] at hx
      simp only [cond_false] at hx
      cases hq1 : Nat.beq r2 1 with
      | true =>
        rw [hq1] at hx
        obtain ⟨e1, e2⟩ := hv2 (xeqb hq1)
        refine va_ldcS (own := (nm y).cls) (tx := (txt 1).2.2) (q := ex 1) hex hb hown ?_ hdec (xk0 E hx ⟨⟨lv, hl, hls⟩, rfl, hst⟩)
        rw [e1, e2]
        exact hEX.2.2.2.2.1 1 (Or.inl rfl)
      | false =>
        rw [hq1] at hx
        simp only [cond_false] at hx
        obtain ⟨g1, g2⟩ := xcnd hx
        obtain ⟨e1, e2⟩ := hv3 (xeqb g1)
        refine va_ldcS (own := (nm y).cls) (tx := (txt 3).2.2) (q := ex 3) hex hb hown ?_ hdec (xk0 E g2 ⟨⟨lv, hl, hls⟩, rfl, hst⟩)
        rw [e1, e2]
        exact hEX.2.2.2.2.1 3 (Or.inr rfl)
  | ldc_w i => obtain ⟨rfl, hv⟩ := hI; exact lv_ldcw hex hb hown (hts _ hv) hdec (xk0 E hx ⟨⟨lv, hl, hls⟩, rfl, hst⟩)
  | ldc2_w i => obtain ⟨rfl, hv⟩ := hI; exact lv_ldc2 hex hb hown (hts _ hv) hdec (xk0 E hx ⟨⟨lv, hl, hls⟩, rfl, hst⟩)
  | aconst_null => obtain rfl : len = 1 := hI; exact lv_null hex hb hdec (xk0 E hx ⟨⟨lv, hl, hls⟩, rfl, hst⟩)
  | iload i =>
    obtain ⟨rfl, rfl⟩ := hI
    exact xld_go E hx (fun w v q1 q2 q3 k => by obtain ⟨x, rfl⟩ := xden.int sv ex q2 (q3.elim id id); exact lv_iload hex hb hdec q1 k)
  | lload i =>
    obtain ⟨rfl, rfl⟩ := hI
    exact xld_go E hx (fun w v q1 q2 q3 k => by obtain ⟨x, rfl⟩ := xden.long sv ex q2 (q3.elim id id); exact lv_lload hex hb hdec q1 k)
  | aload i =>
    obtain ⟨rfl, rfl⟩ := hI
    refine xld_go E hx (fun w v q1 q2 q3 k => ?_)
    rcases q3 with q3 | q3
    · obtain ⟨x, rfl⟩ := xden.ref sv ex q2 q3; exact lv_aload hex hb hdec q1 k
    · have := xden.nul sv ex q2 q3; subst this; exact lv_aloadN hex hb hdec q1 k
  | iload_n i =>
    obtain ⟨rfl, hi⟩ := hI
    exact xld_go E hx (fun w v q1 q2 q3 k => by obtain ⟨x, rfl⟩ := xden.int sv ex q2 (q3.elim id id); exact lv_iload_n hex hb hdec hi q1 k)
  | lload_n i =>
    obtain ⟨rfl, hi⟩ := hI
    exact xld_go E hx (fun w v q1 q2 q3 k => by obtain ⟨x, rfl⟩ := xden.long sv ex q2 (q3.elim id id); exact lv_lload_n hex hb hdec hi q1 k)
  | aload_n i =>
    obtain ⟨rfl, hi⟩ := hI
    refine xld_go E hx (fun w v q1 q2 q3 k => ?_)
    rcases q3 with q3 | q3
    · obtain ⟨x, rfl⟩ := xden.ref sv ex q2 q3; exact lv_aload_n hex hb hdec hi q1 k
    · have := xden.nul sv ex q2 q3; subst this; exact lv_aload_nN hex hb hdec hi q1 k
  | istore i =>
    obtain ⟨rfl, rfl, hn⟩ := hI
    obtain ⟨w, r, rfl, g2, g3⟩ := x_st_ok hx
    obtain ⟨v, m1, rfl, hv, hr⟩ := xstR_cons hst
    obtain ⟨x, rfl⟩ := xden.int sv ex hv (g2.elim id id)
    exact lv_istore hex hb hdec hl hn rfl (fun la' hl' => xk0 E g3 ⟨⟨_, hl', rfl, hv, xlsR.filter sv ex (xk1_ok sv ex _) hls⟩, hr⟩)
  | lstore i =>
    obtain ⟨rfl, rfl, hn⟩ := hI
    obtain ⟨w, r, rfl, g2, g3⟩ := x_st_ok hx
    obtain ⟨v, m1, rfl, hv, hr⟩ := xstR_cons hst
    obtain ⟨x, rfl⟩ := xden.long sv ex hv (g2.elim id id)
    exact lv_lstore hex hb hdec hl hn rfl (fun la' hl' => xk0 E g3 ⟨⟨_, hl', rfl, hv, xlsR.filter sv ex (xk2_ok sv ex _) hls⟩, hr⟩)
  | astore i =>
    obtain ⟨rfl, rfl, hn⟩ := hI
    obtain ⟨w, r, rfl, g2, g3⟩ := x_st_ok hx
    obtain ⟨v, m1, rfl, hv, hr⟩ := xstR_cons hst
    obtain ⟨x, rfl⟩ := xden.ref sv ex hv (g2.elim id id)
    exact lv_astore hex hb hdec hl hn rfl (fun la' hl' => xk0 E g3 ⟨⟨_, hl', rfl, hv, xlsR.filter sv ex (xk1_ok sv ex _) hls⟩, hr⟩)
  | istore_n i =>
    obtain ⟨rfl, hi, hn⟩ := hI
    obtain ⟨w, r, rfl, g2, g3⟩ := x_st_ok hx
    obtain ⟨v, m1, rfl, hv, hr⟩ := xstR_cons hst
    obtain ⟨x, rfl⟩ := xden.int sv ex hv (g2.elim id id)
    exact lv_istore_n hex hb hdec hi hl hn rfl (fun la' hl' => xk0 E g3 ⟨⟨_, hl', rfl, hv, xlsR.filter sv ex (xk1_ok sv ex _) hls⟩, hr⟩)
  | lstore_n i =>
    obtain ⟨rfl, hi, hn⟩ := hI
    obtain ⟨w, r, rfl, g2, g3⟩ := x_st_ok hx
    obtain ⟨v, m1, rfl, hv, hr⟩ := xstR_cons hst
    obtain ⟨x, rfl⟩ := xden.long sv ex hv (g2.elim id id)
    exact lv_lstore_n hex hb hdec hi hl hn rfl (fun la' hl' => xk0 E g3 ⟨⟨_, hl', rfl, hv, xlsR.filter sv ex (xk2_ok sv ex _) hls⟩, hr⟩)
  | astore_n i =>
    obtain ⟨rfl, hi, hn⟩ := hI
    obtain ⟨w, r, rfl, g2, g3⟩ := x_st_ok hx
    obtain ⟨v, m1, rfl, hv, hr⟩ := xstR_cons hst
    obtain ⟨x, rfl⟩ := xden.ref sv ex hv (g2.elim id id)
    exact lv_astore_n hex hb hdec hi hl hn rfl (fun la' hl' => xk0 E g3 ⟨⟨_, hl', rfl, hv, xlsR.filter sv ex (xk1_ok sv ex _) hls⟩, hr⟩)
  | iinc i k =>
    obtain ⟨rfl, rfl, hn, hk⟩ := hI
    obtain ⟨w, x, g1, g2, g3⟩ := x_inc_ok hx
    obtain ⟨j, v, g4, g5⟩ := xlk_ok sv ex hls g1
    have e1 := xci_ok sv ex hbx g5 g2
    subst e1
    exact lv_iinc hex hb hdec hl g4 (v := nI ((x + r2) % 4294967296)) (by rw [hk, x32, nI_add]) hn rfl (fun la' hl' => xk0 E g3 ⟨⟨_, hl', rfl, rfl, xlsR.filter sv ex (xk1_ok sv ex _) hls⟩, hst⟩)
  | dup =>
    obtain rfl : len = 1 := hI
    obtain ⟨a, r, rfl, g1, g2⟩ := x_dup_ok hx
    obtain ⟨v, m1, rfl, hv, hr⟩ := xstR_cons hst
    exact lv_dup hex hb hdec (by rw [xden.cat sv ex hv, g1]; rfl) (xk0 E g2 ⟨⟨lv, hl, hls⟩, hv, hv, hr⟩)
  | pop =>
    obtain rfl : len = 1 := hI
    obtain ⟨a, r, rfl, g1, g2⟩ := x_pop_ok hx
    obtain ⟨v, m1, rfl, hv, hr⟩ := xstR_cons hst
    exact lv_pop hex hb hdec (by rw [xden.cat sv ex hv, g1]; rfl) (xk0 E g2 ⟨⟨lv, hl, hls⟩, hr⟩)
  | pop2 =>
    obtain rfl : len = 1 := hI
    obtain ⟨a, r, rfl, g1, g2⟩ := x_pop2_ok hx
    obtain ⟨v, m1, rfl, hv, hr⟩ := xstR_cons hst
    exact lv_pop2_2 hex hb hdec (by rw [xden.cat sv ex hv, g1]; rfl) (xk0 E g2 ⟨⟨lv, hl, hls⟩, hr⟩)
  | dup2 =>
    obtain rfl : len = 1 := hI
    rcases x_dup2_ok hx with ⟨a, r, rfl, g1, g2⟩ | ⟨a, b, r, rfl, g1, g3, g2⟩
    · obtain ⟨v, m1, rfl, hv, hr⟩ := xstR_cons hst
      exact lv_dup2_2 hex hb hdec (by rw [xden.cat sv ex hv, g1]; rfl) (xk0 E g2 ⟨⟨lv, hl, hls⟩, hv, hv, hr⟩)
    · obtain ⟨v, m1, rfl, hv, hr⟩ := xstR_cons hst
      obtain ⟨v2, m2, rfl, hv2, hr⟩ := xstR_cons hr
      exact lv_dup2_11 hex hb hdec (by rw [xden.cat sv ex hv, g1]; rfl) (by rw [xden.cat sv ex hv2, g3]; rfl) (xk0 E g2 ⟨⟨lv, hl, hls⟩, hv, hv2, hv, hv2, hr⟩)
  | _ => cases hg
def xg2 : Instr → Bool
  | .iadd => true
  | .isub => true
  | .imul => true
  | .iand => true
  | .ior => true
  | .ishl => true
  | .ishr => true
  | .idiv => true
  | .irem => true
  | .ladd => true
  | .lsub => true
  | .lmul => true
  | .land => true
  | .lor => true
  | .ldiv => true
  | .lrem => true
  | .lshl => true
  | .lshr => true
  | .i2l => true
  | .l2i => true
  | .i2b => true
  | .i2s => true
  | .ineg => true
  | .iushr => true
  | .i2c => true
  | _ => false
set_option maxHeartbeats 4000000 in
theorem xf2 (E : xStp l D cl A sv ex el eb nest txt ovr mi bys nm rtt gw rec y d ls st bx h n cn sn L p e R s m args below meth c Q as ws H locs la stv) {ins : Instr} {len tg r1 r2 : Nat} (hg : xg2 ins = true) (hdec : decode (bys y) pc = .ok (ins, len)) (hI : xI cl nest txt ovr mi df bys nm rtt gw y pc ins len tg r1 r2)
    (hx : xex mi df el eb rec ins (pc + len) tg r1 r2 y d pc ls st bx h n cn sn = some L) : W p l e R s m args below meth c H locs cn sn Q (F0 m pc la stv) := by
  have hex := E.2.1.1
  have hb := E.2.1.2.1
  cases ins with
  | iadd => obtain rfl : len = 1 := hI; exact xbi_go E hx (F := fun x z => x + z) (fun a b => by rw [x32, nI_add]) (fun x z rest k => lv_iadd hex hb hdec k)
  | isub => obtain rfl : len = 1 := hI; exact xbi_go E hx (F := fun x z => x - z) (fun a b => nI_sub a b) (fun x z rest k => lv_isub hex hb hdec k)
  | imul => obtain rfl : len = 1 := hI; exact xbi_go E hx (F := fun x z => x * z) (fun a b => by rw [x32, pk_mul]) (fun x z rest k => lv_imul hex hb hdec k)
  | iand => obtain rfl : len = 1 := hI; exact xbi_go E hx (F := fun x z => x &&& z) (fun a b => nI_xnu _) (fun x z rest k => lv_iand hex hb hdec k)
  | ior => obtain rfl : len = 1 := hI; exact xbi_go E hx (F := fun x z => x ||| z) (fun a b => nI_xnu _) (fun x z rest k => lv_ior hex hb hdec k)
  | ishl => obtain rfl : len = 1 := hI; exact xbi_go E hx (F := fun x z => x <<< (z &&& 31)) (fun a b => nI_xnu _) (fun x z rest k => lv_ishl hex hb hdec k)
  | ishr => obtain rfl : len = 1 := hI; exact xbi_go E hx (F := fun x z => x >>> (z &&& 31)) (fun a b => nI_xnu _) (fun x z rest k => lv_ishr hex hb hdec k)
  | idiv => obtain rfl : len = 1 := hI; exact xdv_go E hx (F := fun x z => x / z) (fun a b => nI_xnu _) (fun x z rest hz k => lv_idiv hex hb hdec hz k)
  | irem => obtain rfl : len = 1 := hI; exact xdv_go E hx (F := fun x z => x - x / z * z) (fun a b => nI_xnu _) (fun x z rest hz k => lv_irem hex hb hdec hz k)
  | ladd => obtain rfl : len = 1 := hI; exact xbl_go E hx (F := fun x z => x + z) (fun a b => lN_xnl _) (fun x z rest k => lv_ladd hex hb hdec k)
  | lsub => obtain rfl : len = 1 := hI; exact xbl_go E hx (F := fun x z => x - z) (fun a b => lN_xnl _) (fun x z rest k => lv_lsub hex hb hdec k)
  | lmul => obtain rfl : len = 1 := hI; exact xbl_go E hx (F := fun x z => x * z) (fun a b => lN_xnl _) (fun x z rest k => lv_lmul hex hb hdec k)
  | land => obtain rfl : len = 1 := hI; exact xbl_go E hx (F := fun x z => x &&& z) (fun a b => lN_xnl _) (fun x z rest k => lv_land hex hb hdec k)
  | lor => obtain rfl : len = 1 := hI; exact xbl_go E hx (F := fun x z => x ||| z) (fun a b => lN_xnl _) (fun x z rest k => lv_lor hex hb hdec k)
  | ldiv => obtain rfl : len = 1 := hI; exact xdl_go E hx (F := fun x z => x / z) (fun a b => lN_xnl _) (fun x z rest hz k => lv_ldiv hex hb hdec hz k)
  | lrem => obtain rfl : len = 1 := hI; exact xdl_go E hx (F := fun x z => x - x / z * z) (fun a b => lN_xnl _) (fun x z rest hz k => lv_lrem hex hb hdec hz k)
  | lshl => obtain rfl : len = 1 := hI; exact xsl_go E hx (F := fun x z => x <<< (z.toInt64 &&& 63)) (fun a b => lN_xnl _) (fun x z rest k => lv_lshl hex hb hdec rfl k)
  | lshr => obtain rfl : len = 1 := hI; exact xsl_go E hx (F := fun x z => x >>> (z.toInt64 &&& 63)) (fun a b => lN_xnl _) (fun x z rest k => lv_lshr hex hb hdec rfl k)
  | i2l => obtain rfl : len = 1 := hI; exact xi2l_go E hx (fun x rest k => lv_i2l hex hb hdec rfl k)
  | l2i => obtain rfl : len = 1 := hI; exact xl2i_go E hx (fun x rest k => lv_l2i hex hb hdec rfl k)
  | i2b => obtain rfl : len = 1 := hI; exact xui_go E hx (F := fun x => x.toInt8.toInt32) (fun a => nI_xnu _) (fun x rest k => lv_i2b hex hb hdec rfl k)
  | ineg => obtain rfl : len = 1 := hI; exact xui_go E hx (F := fun x => -x) (fun a => nI_xnu _) (fun x rest k => lv_ineg hex hb hdec k)
  | iushr => obtain rfl : len = 1 := hI; exact xbi_go E hx (F := fun x z => (x.toUInt32 >>> (z.toUInt32 &&& Int32.toUInt32 31)).toInt32) (fun a b => nI_xnu _) (fun x z rest k => lv_iushr hex hb hdec rfl k)
  | i2s => obtain rfl : len = 1 := hI; exact xui_go E hx (F := fun x => x.toInt16.toInt32) (fun a => nI_xnu _) (fun x rest k => lv_i2s hex hb hdec rfl k)
  | i2c => obtain rfl : len = 1 := hI; exact xui_go E hx (F := fun x => (x.toUInt32 % 65536).toInt32) (fun a => (nI_c65 a).symm) (fun x rest k => lv_i2c hex hb hdec rfl k)
  | _ => cases hg
def xg3 : Instr → Bool
  | .goto _ => true
  | .if_icmp _ _ => true
  | .ifCond _ _ => true
  | .ifnull _ => true
  | .ifnonnull _ => true
  | .lcmp => true
  | .tableswitch _ _ _ _ => true
  | .lookupswitch _ _ => true
  | _ => false
theorem xmapp1 {x : xleaf} {a b : List xleaf} (h : x ∈ a) : x ∈ a ++ b := List.mem_append_left _ h
theorem xmapp2 {x : xleaf} {a b : List xleaf} (h : x ∈ b) : x ∈ a ++ b := List.mem_append_right _ h
set_option maxHeartbeats 4000000 in
theorem xf3 (E : xStp l D cl A sv ex el eb nest txt ovr mi bys nm rtt gw rec y d ls st bx h n cn sn L p e R s m args below meth c Q as ws H locs la stv) {ins : Instr} {len tg r1 r2 : Nat} (hg : xg3 ins = true) (hdec : decode (bys y) pc = .ok (ins, len)) (hI : xI cl nest txt ovr mi df bys nm rtt gw y pc ins len tg r1 r2)
    (hx : xex mi df el eb rec ins (pc + len) tg r1 r2 y d pc ls st bx h n cn sn = some L) : W p l e R s m args below meth c H locs cn sn Q (F0 m pc la stv) := by
  obtain ⟨hrec, ⟨hex, hb, hml, hown, hts, hK, hEX, hA, hnm, hRf, hRl, hRc, hRs⟩, hc, hs, ⟨hbx, hh, hP, hD, hS⟩, ⟨hl, hst⟩, hret⟩ := id E
  cases ins with
  | goto off => obtain ⟨rfl, ht⟩ := hI; exact lv_goto hex hb hdec ht (xk0 E hx ⟨hl, hst⟩)
  | if_icmp o off =>
    obtain ⟨rfl, ht⟩ := hI
    obtain ⟨b, a, r, rfl, k1, k2, g⟩ := x_icmp_ok hx
    obtain ⟨vb, m1, rfl, hvb, hst'⟩ := xstR_cons hst
    obtain ⟨va, m2, rfl, hva, hr⟩ := xstR_cons hst'
    obtain ⟨z, rfl⟩ := xden.int sv ex hvb k1
    obtain ⟨x, rfl⟩ := xden.int sv ex hva k2
    rcases xbr_ok g with ⟨t, q1, q2⟩ | ⟨i, q, q1⟩ | ⟨L1, L2, q1, q2, q3⟩
    · have hif := xdec_ok q1 (xrg_int sv ex hbx hva).1 (xrg_int sv ex hbx hva).2 (xrg_int sv ex hbx hvb).1 (xrg_int sv ex hbx hvb).2
      refine xicmp hex hb hdec ht (fun hr' => ?_) (fun hr' => ?_)
      · have e : t = true := hif.mpr hr'
        subst e; exact xk0 E q2 ⟨hl, hr⟩
      · cases t with
        | true => exact absurd (hif.mp rfl) hr'
        | false => exact xk0 E q2 ⟨hl, hr⟩
    · exact xksp E q1
    · subst q3
      exact xicmp hex hb hdec ht (fun _ => xkk E q1 (fun _ => xmapp1) (xle.rf _) hc hs ⟨hbx, hh, hP, hD, hS⟩ ⟨hl, hr⟩) (fun _ => xkk E q2 (fun _ => xmapp2) (xle.rf _) hc hs ⟨hbx, hh, hP, hD, hS⟩ ⟨hl, hr⟩)
  | ifCond o off =>
    obtain ⟨rfl, ht⟩ := hI
    obtain ⟨a, r, rfl, k2, g⟩ := x_if_ok hx
    obtain ⟨va, m2, rfl, hva, hr⟩ := xstR_cons hst
    obtain ⟨x, rfl⟩ := xden.int sv ex hva k2
    have h0 : xden sv ex as (0, 0) (.int (nI 0)) := rfl
    rcases xbr_ok g with ⟨t, q1, q2⟩ | ⟨i, q, q1⟩ | ⟨L1, L2, q1, q2, q3⟩
    · have hif := xdec_ok q1 (xrg_int sv ex hbx hva).1 (xrg_int sv ex hbx hva).2 (xrg_int sv ex hbx h0).1 (xrg_int sv ex hbx h0).2
      refine xifc hex hb hdec ht (fun hr' => ?_) (fun hr' => ?_)
      · have e : t = true := hif.mpr hr'
        subst e; exact xk0 E q2 ⟨hl, hr⟩
      · cases t with
        | true => exact absurd (hif.mp rfl) hr'
        | false => exact xk0 E q2 ⟨hl, hr⟩
    · exact xksp E q1
    · subst q3
      exact xifc hex hb hdec ht (fun _ => xkk E q1 (fun _ => xmapp1) (xle.rf _) hc hs ⟨hbx, hh, hP, hD, hS⟩ ⟨hl, hr⟩) (fun _ => xkk E q2 (fun _ => xmapp2) (xle.rf _) hc hs ⟨hbx, hh, hP, hD, hS⟩ ⟨hl, hr⟩)
  | ifnull off =>
    obtain ⟨rfl, ht⟩ := hI
    obtain ⟨a, r, rfl, g⟩ := x_nul_ok hx
    obtain ⟨va, m2, rfl, hva, hr⟩ := xstR_cons hst
    rcases g with ⟨k, g⟩ | ⟨k, g⟩
    · obtain ⟨x, rfl⟩ := xden.ref sv ex hva k
      exact lv_ifnull hex hb hdec (xk0 E g ⟨hl, hr⟩)
    · have := xden.nul sv ex hva k
      subst this
      exact lv_ifnullN hex hb hdec ht (xk0 E g ⟨hl, hr⟩)
  | ifnonnull off =>
    obtain ⟨rfl, ht⟩ := hI
    obtain ⟨a, r, rfl, g⟩ := x_nul_ok hx
    obtain ⟨va, m2, rfl, hva, hr⟩ := xstR_cons hst
    rcases g with ⟨k, g⟩ | ⟨k, g⟩
    · obtain ⟨x, rfl⟩ := xden.ref sv ex hva k
      exact lv_ifnonnull hex hb hdec ht (xk0 E g ⟨hl, hr⟩)
    · have := xden.nul sv ex hva k
      subst this
      exact lv_ifnonnullN hex hb hdec (xk0 E g ⟨hl, hr⟩)
  | lcmp =>
    obtain rfl : len = 1 := hI
    obtain ⟨b, a, r, rfl, k1, k2, g⟩ := x_lcmp_ok hx
    obtain ⟨vb, m1, rfl, hvb, hst'⟩ := xstR_cons hst
    obtain ⟨va, m2, rfl, hva, hr⟩ := xstR_cons hst'
    obtain ⟨z, rfl⟩ := xden.long sv ex hvb k1
    obtain ⟨x, rfl⟩ := xden.long sv ex hva k2
    have ra := xrg_long sv ex hbx hva
    have rb := xrg_long sv ex hbx hvb
    rcases g with ⟨q1, g⟩ | ⟨q1, q2, g⟩ | ⟨q1, q2, g⟩ | ⟨i, q, g⟩ | g
    · refine W.lcmp hex hb hdec (xk0 E g ⟨hl, ?_, hr⟩)
      have h1 : x < z := xoff_ltL.mp ((xdec_ok q1 ra.1 ra.2 rb.1 rb.2).mp rfl)
      have h2 := Int64.lt_iff_toInt_lt.mp h1
      show Value.int (lg_cmp x z) = Value.int (nI 4294967295)
      unfold lg_cmp
      rw [if_neg (fun q => by have := Int64.lt_iff_toInt_lt.mp (gt_iff_lt.mp q); omega), if_neg (fun q => by rw [q] at h2; omega)]
      rfl
    · refine W.lcmp hex hb hdec (xk0 E g ⟨hl, ?_, hr⟩)
      have h1 : z < x := xoff_ltL.mp ((xdec_ok q2 ra.1 ra.2 rb.1 rb.2).mp rfl)
      show Value.int (lg_cmp x z) = Value.int (nI 1)
      unfold lg_cmp
      rw [if_pos h1]
      rfl
    · refine W.lcmp hex hb hdec (xk0 E g ⟨hl, ?_, hr⟩)
      have h1 : ¬ x < z := fun q => by have := (xdec_ok q1 ra.1 ra.2 rb.1 rb.2).mpr (xoff_ltL.mpr q); cases this
      have h2 : ¬ z < x := fun q => by have := (xdec_ok q2 ra.1 ra.2 rb.1 rb.2).mpr (xoff_ltL.mpr q); cases this
      have h3 : x = z := by
        apply Int64.toInt_inj.mp
        have a1 : ¬ x.toInt < z.toInt := fun q => h1 (Int64.lt_iff_toInt_lt.mpr q)
        have a2 : ¬ z.toInt < x.toInt := fun q => h2 (Int64.lt_iff_toInt_lt.mpr q)
        omega
      show Value.int (lg_cmp x z) = Value.int (nI 0)
      unfold lg_cmp
      rw [if_neg h2, if_pos h3]
      rfl
    · exact xksp E g
    · exact W.lcmp hex hb hdec (xk0 E g ⟨hl, ⟨_, rfl⟩, hr⟩)
  | tableswitch dflt lo hi offs =>
    obtain ⟨hlo, hhi, hlh⟩ := hI
    obtain ⟨a, r, rfl, g⟩ := x_tab_ok hx
    obtain ⟨va, m2, rfl, hva, hr⟩ := xstR_cons hst
    rcases g with ⟨x, t, q1, q2, g⟩ | ⟨q1, q2, q3, g⟩ | ⟨i, q, g⟩
    · have e1 := xci_ok sv ex hbx hva q1
      subst e1
      rcases xts_in q2 with ⟨h1, h2⟩ | ⟨h1, h2, o, h3, h4⟩
      · exact lv_tableOut hex hb hdec h1 h2 (xk0 E g ⟨hl, hr⟩)
      · exact lv_tableIn hex hb hdec h1 h2 h3 h4 (xk0 E g ⟨hl, hr⟩)
    · obtain ⟨t, i⟩ := a
      have e1 : t = 1 := q1
      subst e1
      have e2 : va = .int (sv i) := hva
      subst e2
      have hri := hbx i
      have hoi := xoff_int (sv i)
      refine lv_tableOut hex hb hdec ?_ (tgt := ((pc : Int) + dflt).toNat) (by omega) (xk0 E g ⟨hl, hr⟩)
      dsimp only at q2 hri
      rcases q2 with q2 | q2
      · left; omega
      · right; omega
    · exact xksp E g
  | lookupswitch dflt ps =>
    have hI : (ps.toList.zip (ps.toList.drop 1)).all (fun (a, next) => a.1 < next.1) = true := hI
    obtain ⟨a, r, x, rfl, q1, q2, g⟩ := x_lkp_ok hx
    obtain ⟨va, m2, rfl, hva, hr⟩ := xstR_cons hst
    have e1 := xci_ok sv ex hbx hva q1
    subst e1
    exact lv_lookup hex hb hdec hI rfl (tgt := ((pc : Int) + Op.lookupswitch.offset ps.toList dflt (xz x)).toNat) (by show (pc : Int) + Op.lookupswitch.offset ps.toList dflt (xz x) = _; omega) (xk0 E g ⟨hl, hr⟩)
  | _ => cases hg
end Go2
