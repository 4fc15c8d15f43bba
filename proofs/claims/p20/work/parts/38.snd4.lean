/-! The step is right: longs, stack, branches, switches -/
section Snd4
variable {sv : Nat → Int32} {cd : xcd} {mi : xmi} {df : xdf} {el : Nat → Nat} {eb : Nat → List Nat} {G : xG} {h0 : xheap} {n0 : Nat} {cn0 sn0 : Nat → Nat} {Q : cg → Option cv → Prop}
variable {tyt : Lean.RArray (Nat × Nat)} {typs : Lean.RArray (Nat × aty)} {GS : gho → (Nat → Int) → cg → Prop} {FX : (Nat → Int) → Nat → cg → Prop}
variable {rec : aF} {y d dd pc nx tg r1 r2 : Nat} {ins : Instr} {ls : List (Nat × av)} {st : List av} {fr : List afr} {mem : List am} {env : aenv} {fx : List ae} {gh : List gho} {ne : Nat} {ρ : Nat → Int} {g : cg} {lsc : List (Nat × cv)} {stc : List cv} {frc : List cfr}
/-- a long of which nothing is known -/
theorem a_lngn (hF : aFXm FX) (hrec : aSnd G h0 n0 cn0 sn0 Q tyt typs GS FX rec) (hγ : aGm h0 tyt typs GS FX ρ ls st fr mem env fx gh ne g lsc stc frc) (hd : dd ≤ d) {r : List av} {rc : List cv} (hs : aC ne ρ (fun τ => stR tyt τ r rc)) (X : Int64)
    (k : afrs (-9223372036854775808) 9223372036854775807 env ne (fun env' ne' => rec y dd nx ls ((2, 0, esym ne) :: r) fr mem env' fx gh ne') = true) : cTF G h0 n0 cn0 sn0 Q frc y d nx lsc ((2, X.toInt) :: rc) g := by
  rw [afrs_eq] at k
  have hcL := cL_of X
  refine a_nx hF hrec hγ.2.2.1 hγ.2.2.2 hd k (by omega) (aup_ag ρ ne X.toInt) (fun τ hτ => ?_) (hγ.gl.mono (by omega) (aup_ag ρ ne _)) (fun τ hτ => ⟨avR_mk2 hcL τ _ (afrs_ev τ hτ), hs.mono (by omega) (aup_ag ρ ne _) τ hτ⟩) (hγ.2.1.imp (fun _ x => x.2.2))
  have hτ2 : aag ne ρ τ := aag.tr (by omega) (aup_ag ρ ne _) hτ
  exact coR_env (hγ.1 τ hτ2) (afrs_ok (hγ.1.imp (fun _ x => x.1)) hcL.1 (by have := hcL.2; omega) τ hτ) (hγ.1 τ hτ2).2.1
theorem a_lngB_ok (hG : cW sv cd mi df el eb G) (hF : aFXm FX) (hrec : aSnd G h0 n0 cn0 sn0 Q tyt typs GS FX rec) (hc : cC cd y pc (ins, nx, tg, r1, r2)) (hγ : aGm h0 tyt typs GS FX ρ ls st fr mem env fx gh ne g lsc stc frc) (hd : dd ≤ d) {f : Nat → Nat → Nat} {F : Int64 → Int64 → Int64} (he : ∀ (rec : xF) (lx : List (Nat × xv)) (sx : List xv) (h : xheap), xex mi df el eb rec ins nx tg r1 r2 y d pc lx sx [] h n0 (cn0 y) (sn0 y) = x_bl rec nx y d lx sx [] h n0 (cn0 y) (sn0 y) f) (hdn : ∀ (lf : dlf) (sx : List cv) (g : cg), dnx h0 sv mi el eb ins nx tg r1 r2 pc lf sx g = d_bl F nx lf sx g) (hFf : ∀ a b, lN (f a b) = F (lN a) (lN b)) (h : a_lng rec nx y dd ls st fr mem env fx gh ne 2 = true) : cTF G h0 n0 cn0 sn0 Q frc y d pc lsc stc g := by
  obtain ⟨b, a, r, vb, va, rc, rfl, rfl, tb, ta, hb, ha, hs, k⟩ := a_two h hγ.gs
  obtain ⟨x, rfl, hx, hxe⟩ := a_lngv ha ta
  obtain ⟨z, rfl, hz, hze⟩ := a_lngv hb tb
  exact cT_bl hG hc he hdn hFf (a_lngn hF hrec hγ hd hs _ k)
theorem a_lngS_ok (hG : cW sv cd mi df el eb G) (hF : aFXm FX) (hrec : aSnd G h0 n0 cn0 sn0 Q tyt typs GS FX rec) (hc : cC cd y pc (ins, nx, tg, r1, r2)) (hγ : aGm h0 tyt typs GS FX ρ ls st fr mem env fx gh ne g lsc stc frc) (hd : dd ≤ d) {f : Nat → Nat → Nat} {F : Int64 → Int32 → Int64} (he : ∀ (rec : xF) (lx : List (Nat × xv)) (sx : List xv) (h : xheap), xex mi df el eb rec ins nx tg r1 r2 y d pc lx sx [] h n0 (cn0 y) (sn0 y) = x_sl rec nx y d lx sx [] h n0 (cn0 y) (sn0 y) f) (hdn : ∀ (lf : dlf) (sx : List cv) (g : cg), dnx h0 sv mi el eb ins nx tg r1 r2 pc lf sx g = d_sl F nx lf sx g) (hFf : ∀ a b, lN (f a b) = F (lN a) (nI b)) (h : a_lng rec nx y dd ls st fr mem env fx gh ne 0 = true) : cTF G h0 n0 cn0 sn0 Q frc y d pc lsc stc g := by
  unfold a_lng at h
  match st, hγ, h with
  | [], _, h => cases h
  | [_], _, h => cases h
  | b :: a :: r, hγ, h =>
    obtain ⟨g1, g2⟩ := xcnb h
    obtain ⟨g3, g4⟩ := xand g1
    obtain ⟨vb, rc1, rfl, hb, hs1⟩ := a_top hγ.gs
    obtain ⟨va, rc, rfl, ha, hs2⟩ := a_top hs1
    obtain ⟨x, rfl, hx, hxe⟩ := a_lngv ha (xeqb g4)
    obtain ⟨z, rfl, hz, hze⟩ := a_int hb (xeqb g3)
    exact cT_sl hG hc he hdn hFf (a_lngn hF hrec hγ hd hs2 _ g2)
/-- one operand -/
theorem a_one {t1 : Nat} {k : av → List av → Bool} (h : (match st with
    | a :: r => cond (Nat.beq a.1 t1) (k a r) false
    | _ => false) = true) (hs : aC ne ρ (fun τ => stR tyt τ st stc)) : ∃ a r va rc, st = a :: r ∧ stc = va :: rc ∧ a.1 = t1 ∧ aC ne ρ (fun τ => avR tyt τ a va) ∧ aC ne ρ (fun τ => stR tyt τ r rc) ∧ k a r = true := by
  match st, hs, h with
  | [], _, h => cases h
  | a :: r, hs, h =>
    obtain ⟨g1, g2⟩ := xcnb h
    obtain ⟨va, rc, rfl, ha, hs2⟩ := a_top hs
    exact ⟨a, r, va, rc, rfl, rfl, xeqb g1, ha, hs2, g2⟩
theorem a_cnvI_ok (hG : cW sv cd mi df el eb G) (hF : aFXm FX) (hrec : aSnd G h0 n0 cn0 sn0 Q tyt typs GS FX rec) (hc : cC cd y pc (ins, nx, tg, r1, r2)) (hγ : aGm h0 tyt typs GS FX ρ ls st fr mem env fx gh ne g lsc stc frc) (hd : dd ≤ d) {f : Nat → Nat} {F : Int32 → Int32} {lo hi s : Int} (he : ∀ (rec : xF) (lx : List (Nat × xv)) (sx : List xv) (h : xheap), xex mi df el eb rec ins nx tg r1 r2 y d pc lx sx [] h n0 (cn0 y) (sn0 y) = x_ui rec nx y d lx sx [] h n0 (cn0 y) (sn0 y) f) (hdn : ∀ (lf : dlf) (sx : List cv) (g : cg), dnx h0 sv mi el eb ins nx tg r1 r2 pc lf sx g = d_ui F nx lf sx g) (hFf : ∀ a, nI (f a) = F (nI a)) (hin : ∀ X, lo ≤ (F X).toInt ∧ (F X).toInt ≤ hi) (hid : ∀ x, cI x → lo ≤ s * x → s * x ≤ hi → (F (i32 x)).toInt = s * x) (h : a_cnv rec nx y dd ls st fr mem env fx gh ne 0 0 lo hi s = true) : cTF G h0 n0 cn0 sn0 Q frc y d pc lsc stc g := by
  obtain ⟨a, r, va, rc, rfl, rfl, ta, ha, hs, k⟩ := a_one h hγ.gs
  obtain ⟨x, rfl, hx, hxe⟩ := a_int ha ta
  rw [efrc_eq] at k
  refine cT_ui hG hc he hdn hFf (a_nr hF hrec hγ hd hs (aar_ok hγ.1 (hin (i32 x)) (fun τ hτ b1 b2 => ?_) (avR_mk0 (cI_of _)) k))
  rw [escl_ev, hxe τ hτ] at b1 b2 ⊢
  exact (hid x hx b1 b2).symm
theorem a_l2i_ok (hG : cW sv cd mi df el eb G) (hF : aFXm FX) (hrec : aSnd G h0 n0 cn0 sn0 Q tyt typs GS FX rec) (hγ : aGm h0 tyt typs GS FX ρ ls st fr mem env fx gh ne g lsc stc frc) (hd : dd ≤ d) (hc : cC cd y pc (.l2i, nx, tg, r1, r2)) (h : a_cnv rec nx y dd ls st fr mem env fx gh ne 2 0 (-2147483648) 2147483647 1 = true) : cTF G h0 n0 cn0 sn0 Q frc y d pc lsc stc g := by
  obtain ⟨a, r, va, rc, rfl, rfl, ta, ha, hs, k⟩ := a_one h hγ.gs
  obtain ⟨x, rfl, hx, hxe⟩ := a_lngv ha ta
  rw [efrc_eq] at k
  have hcI := cI_of (i64 x).toInt32
  refine cT_l2i hG hc (a_nr hF hrec hγ hd hs (aar_ok hγ.1 ⟨hcI.1, by have := hcI.2; omega⟩ (fun τ hτ b1 b2 => ?_) (avR_mk0 hcI) k))
  rw [escl_ev, hxe τ hτ] at b1 b2 ⊢
  rw [i64_i32 (by unfold cI; omega)]
  omega
theorem a_i2l_ok (hG : cW sv cd mi df el eb G) (hF : aFXm FX) (hrec : aSnd G h0 n0 cn0 sn0 Q tyt typs GS FX rec) (hγ : aGm h0 tyt typs GS FX ρ ls st fr mem env fx gh ne g lsc stc frc) (hd : dd ≤ d) (hc : cC cd y pc (.i2l, nx, tg, r1, r2)) (h : a_i2l rec nx y dd ls st fr mem env fx gh ne = true) : cTF G h0 n0 cn0 sn0 Q frc y d pc lsc stc g := by
  obtain ⟨a, r, va, rc, rfl, rfl, ta, ha, hs, k⟩ := a_one h hγ.gs
  obtain ⟨x, rfl, hx, hxe⟩ := a_int ha ta
  refine cT_i2l hG hc hx (a_n0 hF hrec hγ hd k hγ.gl (fun τ hτ => ⟨avR_mk2 ?_ τ _ (hxe τ hτ), hs τ hτ⟩))
  unfold cI at hx
  unfold cL
  omega
theorem a_dup_ok (hG : cW sv cd mi df el eb G) (hF : aFXm FX) (hrec : aSnd G h0 n0 cn0 sn0 Q tyt typs GS FX rec) (hγ : aGm h0 tyt typs GS FX ρ ls st fr mem env fx gh ne g lsc stc frc) (hd : dd ≤ d) (hc : cC cd y pc (.dup, nx, tg, r1, r2)) (h : a_dup rec nx y dd ls st fr mem env fx gh ne = true) : cTF G h0 n0 cn0 sn0 Q frc y d pc lsc stc g := by
  unfold a_dup at h
  match st, hγ, h with
  | [], _, h => cases h
  | a :: r, hγ, h =>
    dsimp only at h
    obtain ⟨v, rc, rfl, hv, hr⟩ := a_top hγ.gs
    cases hb : Nat.beq (xkd a.1) 1 with
    | true => rw [hb] at h; cases h
    | false =>
      rw [hb] at h
      exact cT_dup hG hc (by rw [avR_kd hv.self]; exact hb) (a_n0 hF hrec hγ hd h hγ.gl (fun τ hτ => ⟨hv τ hτ, hv τ hτ, hr τ hτ⟩))
theorem a_pop_ok (hG : cW sv cd mi df el eb G) (hF : aFXm FX) (hrec : aSnd G h0 n0 cn0 sn0 Q tyt typs GS FX rec) (hγ : aGm h0 tyt typs GS FX ρ ls st fr mem env fx gh ne g lsc stc frc) (hd : dd ≤ d) (hc : cC cd y pc (.pop, nx, tg, r1, r2)) (h : a_pop rec nx y dd ls st fr mem env fx gh ne = true) : cTF G h0 n0 cn0 sn0 Q frc y d pc lsc stc g := by
  unfold a_pop at h
  match st, hγ, h with
  | [], _, h => cases h
  | a :: r, hγ, h =>
    dsimp only at h
    obtain ⟨v, rc, rfl, hv, hr⟩ := a_top hγ.gs
    cases hb : Nat.beq (xkd a.1) 1 with
    | true => rw [hb] at h; cases h
    | false =>
      rw [hb] at h
      exact cT_pop hG hc (by rw [avR_kd hv.self]; exact hb) (a_n0 hF hrec hγ hd h hγ.gl hr)
theorem a_pop2_ok (hG : cW sv cd mi df el eb G) (hF : aFXm FX) (hrec : aSnd G h0 n0 cn0 sn0 Q tyt typs GS FX rec) (hγ : aGm h0 tyt typs GS FX ρ ls st fr mem env fx gh ne g lsc stc frc) (hd : dd ≤ d) (hc : cC cd y pc (.pop2, nx, tg, r1, r2)) (h : a_pop2 rec nx y dd ls st fr mem env fx gh ne = true) : cTF G h0 n0 cn0 sn0 Q frc y d pc lsc stc g := by
  unfold a_pop2 at h
  match st, hγ, h with
  | [], _, h => cases h
  | a :: r, hγ, h =>
    dsimp only at h
    obtain ⟨v, rc, rfl, hv, hr⟩ := a_top hγ.gs
    cases hb : Nat.beq (xkd a.1) 1 with
    | false => rw [hb] at h; cases h
    | true =>
      rw [hb] at h
      exact cT_pop2 hG hc (by rw [avR_kd hv.self]; exact hb) (a_n0 hF hrec hγ hd h hγ.gl hr)
theorem a_dup2_ok (hG : cW sv cd mi df el eb G) (hF : aFXm FX) (hrec : aSnd G h0 n0 cn0 sn0 Q tyt typs GS FX rec) (hγ : aGm h0 tyt typs GS FX ρ ls st fr mem env fx gh ne g lsc stc frc) (hd : dd ≤ d) (hc : cC cd y pc (.dup2, nx, tg, r1, r2)) (h : a_dup2 rec nx y dd ls st fr mem env fx gh ne = true) : cTF G h0 n0 cn0 sn0 Q frc y d pc lsc stc g := by
  unfold a_dup2 at h
  match st, hγ, h with
  | [], _, h => cases h
  | a :: r, hγ, h =>
    dsimp only at h
    obtain ⟨v, rc, rfl, hv, hr⟩ := a_top hγ.gs
    cases hb : Nat.beq (xkd a.1) 1 with
    | true =>
      rw [hb] at h
      exact cT_dup2L hG hc (by rw [avR_kd hv.self]; exact hb) (a_n0 hF hrec hγ hd h hγ.gl (fun τ hτ => ⟨hv τ hτ, hv τ hτ, hr τ hτ⟩))
    | false =>
      rw [hb] at h
      simp only [cond_false] at h
      match r, hr, h with
      | [], _, h => cases h
      | b :: r', hr, h =>
        dsimp only at h
        obtain ⟨w, rc', rfl, hw, hr'⟩ := a_top hr
        cases hb2 : Nat.beq (xkd b.1) 1 with
        | true => rw [hb2] at h; cases h
        | false =>
          rw [hb2] at h
          exact cT_dup2 hG hc (by rw [avR_kd hv.self]; exact hb) (by rw [avR_kd hw.self]; exact hb2) (a_n0 hF hrec hγ hd h hγ.gl (fun τ hτ => ⟨hv τ hτ, hw τ hτ, hv τ hτ, hw τ hτ, hr' τ hτ⟩))
theorem a_goto_ok (hG : cW sv cd mi df el eb G) (hF : aFXm FX) (hrec : aSnd G h0 n0 cn0 sn0 Q tyt typs GS FX rec) (hγ : aGm h0 tyt typs GS FX ρ ls st fr mem env fx gh ne g lsc stc frc) (hd : dd ≤ d) {o : Int} (hc : cC cd y pc (.goto o, nx, tg, r1, r2)) (h : rec y dd tg ls st fr mem env fx gh ne = true) : cTF G h0 n0 cn0 sn0 Q frc y d pc lsc stc g :=
  cT_goto hG hc (a_n0 hF hrec hγ hd h hγ.gl hγ.gs)
/-- a condition that holds: where it leads -/
theorem a_cg (hF : aFXm FX) (hrec : aSnd G h0 n0 cn0 sn0 Q tyt typs GS FX rec) (hγ : aGm h0 tyt typs GS FX ρ ls st fr mem env fx gh ne g lsc stc frc) (hd : dd ≤ d) {r : List av} {rc : List cv} (hs : aC ne ρ (fun τ => stR tyt τ r rc)) {sp : Bool} {o : Jvm.ClassFile.Cond} {e : ae} {z : Int} {pc' : Nat} (hz : aC ne ρ (fun τ => ev τ e = z)) (ho : crel o z 0 = true)
    (k : acn2 sp o env fx e (fun env fx => rec y dd pc' ls r fr mem env fx gh ne) = true) : cTF G h0 n0 cn0 sn0 Q frc y d pc' lsc rc g := by
  obtain ⟨env', fx', k1, k2⟩ := acn2_ok (P := aag ne ρ) ⟨ρ, aag.rf ne ρ⟩ k hz (fun τ hτ => ⟨(hγ.1 τ hτ).1, (hγ.1 τ hτ).2.1⟩) ho
  exact a_nx hF hrec hγ.2.2.1 hγ.2.2.2 hd k1 (Nat.le_refl _) (aag.rf _ _) (fun τ hτ => coR_env (hγ.1 τ hτ) (k2 τ hτ).1 (k2 τ hτ).2) hγ.gl hs (hγ.2.1.imp (fun _ x => x.2.2))
theorem a_brv (hF : aFXm FX) (hrec : aSnd G h0 n0 cn0 sn0 Q tyt typs GS FX rec) (hγ : aGm h0 tyt typs GS FX ρ ls st fr mem env fx gh ne g lsc stc frc) (hd : dd ≤ d) {r : List av} {rc : List cv} (hs : aC ne ρ (fun τ => stR tyt τ r rc)) {sp : Bool} {o : Jvm.ClassFile.Cond} {e : ae} {z : Int} (hz : aC ne ρ (fun τ => ev τ e = z))
    (k : a_br rec nx tg y dd ls fr mem env fx gh ne sp o e r = true) : cTF G h0 n0 cn0 sn0 Q frc y d (cond (crel o z 0) tg nx) lsc rc g := by
  obtain ⟨k1, k2⟩ := xcnb k
  cases hb : crel o z 0 with
  | true => exact a_cg hF hrec hγ hd hs hz hb k1
  | false => exact a_cg hF hrec hγ hd hs hz (by rw [crel_neg, hb]; rfl) k2
theorem a_icmp_ok (hG : cW sv cd mi df el eb G) (hF : aFXm FX) (hrec : aSnd G h0 n0 cn0 sn0 Q tyt typs GS FX rec) (hγ : aGm h0 tyt typs GS FX ρ ls st fr mem env fx gh ne g lsc stc frc) (hd : dd ≤ d) {sp : Bool} {o : Jvm.ClassFile.Cond} {w : Int} (hc : cC cd y pc (.if_icmp o w, nx, tg, r1, r2)) (h : a_icmp rec nx tg y dd ls st fr mem env fx gh ne sp o = true) : cTF G h0 n0 cn0 sn0 Q frc y d pc lsc stc g := by
  obtain ⟨b, a, r, vb, va, rc, rfl, rfl, tb, ta, hb, ha, hs, k⟩ := a_two h hγ.gs
  obtain ⟨x, rfl, hx, hxe⟩ := a_int ha ta
  obtain ⟨z, rfl, hz, hze⟩ := a_int hb tb
  rw [efrc_eq] at k
  refine cT_icmp hG hc hx hz ?_
  rw [crel_sub]
  exact a_brv hF hrec hγ hd hs (fun τ hτ => by show ev τ _ = _; rw [eadd_ev, hxe τ hτ, hze τ hτ]; omega) k
theorem a_if_ok (hG : cW sv cd mi df el eb G) (hF : aFXm FX) (hrec : aSnd G h0 n0 cn0 sn0 Q tyt typs GS FX rec) (hγ : aGm h0 tyt typs GS FX ρ ls st fr mem env fx gh ne g lsc stc frc) (hd : dd ≤ d) {sp : Bool} {o : Jvm.ClassFile.Cond} {w : Int} (hc : cC cd y pc (.ifCond o w, nx, tg, r1, r2)) (h : a_if rec nx tg y dd ls st fr mem env fx gh ne sp o = true) : cTF G h0 n0 cn0 sn0 Q frc y d pc lsc stc g := by
  unfold a_if at h
  match st, hγ, h with
  | [], _, h => cases h
  | a :: r, hγ, h =>
    obtain ⟨g1, g2⟩ := xcnb h
    obtain ⟨v, rc, rfl, hv, hr⟩ := a_top hγ.gs
    rcases xor2 g1 with q | q
    · obtain ⟨x, rfl, hx, hxe⟩ := a_int hv (xeqb q)
      exact cT_if hG hc hx (a_brv hF hrec hγ hd hr hxe g2)
    · have e1 := avR_cmp hv.self (xeqb q)
      subst e1
      have hI : cI (csgn (ev ρ a.2.2)) := by unfold csgn cI; split <;> first | omega | (split <;> omega)
      have hk : crel o (csgn (ev ρ a.2.2)) 0 = crel o (ev ρ a.2.2) 0 := crel_sgn o _
      refine cT_if hG hc hI ?_
      obtain ⟨k1, k2⟩ := xcnb g2
      have go : ∀ (o2 : Jvm.ClassFile.Cond) (pc' : Nat), crel o2 (csgn (ev ρ a.2.2)) 0 = true → acn2 sp o2 env fx a.2.2 (fun env fx => rec y dd pc' ls r fr mem env fx gh ne) = true → cTF G h0 n0 cn0 sn0 Q frc y d pc' lsc rc g := by
        intro o2 pc' ho hk2
        have hall : ∀ τ, aag ne ρ τ → crel o2 (ev τ a.2.2) 0 = true := fun τ hτ => by
          have e2 := avR_cmp (hv τ hτ) (xeqb q)
          have e3 : csgn (ev ρ a.2.2) = csgn (ev τ a.2.2) := congrArg Prod.snd e2
          rw [← crel_sgn, ← e3]; exact ho
        have hR : ∀ τ, aag ne ρ τ → envR env τ ∧ fxR fx τ := fun τ hτ => ⟨(hγ.1 τ hτ).1, (hγ.1 τ hτ).2.1⟩
        have fin : ∀ o3 : Jvm.ClassFile.Cond, (∀ τ, aag ne ρ τ → crel o3 (ev τ a.2.2) 0 = true) → acnd o3 env fx a.2.2 (fun env fx => rec y dd pc' ls r fr mem env fx gh ne) = true → cTF G h0 n0 cn0 sn0 Q frc y d pc' lsc rc g := by
          intro o3 h3 h4
          obtain ⟨env', fx', m1, m2⟩ := acnd_ok (P := aag ne ρ) ⟨ρ, aag.rf ne ρ⟩ h4 (fun τ hτ => ⟨(hR τ hτ).1, (hR τ hτ).2, h3 τ hτ⟩)
          exact a_nx hF hrec hγ.2.2.1 hγ.2.2.2 hd m1 (Nat.le_refl _) (aag.rf _ _) (fun τ hτ => coR_env (hγ.1 τ hτ) (m2 τ hτ).1 (m2 τ hτ).2) hγ.gl hr (hγ.2.1.imp (fun _ x => x.2.2))
        unfold acn2 at hk2
        split at hk2
        · obtain ⟨l1, l2⟩ := xcnb hk2
          have same : ∀ τ, aag ne ρ τ → csgn (ev τ a.2.2) = csgn (ev ρ a.2.2) := fun τ hτ => (congrArg Prod.snd (avR_cmp (hv τ hτ) (xeqb q))).symm
          by_cases hn : csgn (ev ρ a.2.2) < 0
          · refine fin .lt (fun τ hτ => ?_) l1
            rw [← crel_sgn, same τ hτ]
            exact decide_eq_true hn
          · refine fin .gt (fun τ hτ => ?_) l2
            rw [← crel_sgn, same τ hτ]
            have : csgn (ev ρ a.2.2) ≠ 0 := of_decide_eq_true ho
            exact decide_eq_true (show 0 < csgn (ev ρ a.2.2) by omega)
        · exact fin o2 hall hk2
      cases hb : crel o (csgn (ev ρ a.2.2)) 0 with
      | true => exact go o tg hb k1
      | false => exact go (aneg o) nx (by rw [crel_neg, hb]; rfl) k2
theorem a_nul_ok (hG : cW sv cd mi df el eb G) (hF : aFXm FX) (hrec : aSnd G h0 n0 cn0 sn0 Q tyt typs GS FX rec) (hc : cC cd y pc (ins, nx, tg, r1, r2)) (hγ : aGm h0 tyt typs GS FX ρ ls st fr mem env fx gh ne g lsc stc frc) (hd : dd ≤ d) {t : Bool} (he : ∀ (rec : xF) (lx : List (Nat × xv)) (sx : List xv) (h : xheap), xex mi df el eb rec ins nx tg r1 r2 y d pc lx sx [] h n0 (cn0 y) (sn0 y) = x_nul rec nx tg y d lx sx [] h n0 (cn0 y) (sn0 y) t) (hdn : ∀ (lf : dlf) (sx : List cv) (g : cg), dnx h0 sv mi el eb ins nx tg r1 r2 pc lf sx g = d_nul nx tg t lf sx g) (h : a_nul rec nx tg y dd ls st fr mem env fx gh ne t = true) : cTF G h0 n0 cn0 sn0 Q frc y d pc lsc stc g := by
  unfold a_nul at h
  match st, hγ, h with
  | [], _, h => cases h
  | a :: r, hγ, h =>
    dsimp only at h
    obtain ⟨v, rc, rfl, hv, hr⟩ := a_top hγ.gs
    split at h
    · rename_i e
      exact cT_nul hG hc he hdn (Or.inl ⟨avR_kd2 hv.self e (by decide), rfl⟩) (a_n0 hF hrec hγ hd h hγ.gl hr)
    · rename_i e
      exact cT_nul hG hc he hdn (Or.inr ⟨avR_kd2 hv.self e (by decide), rfl⟩) (a_n0 hF hrec hγ hd h hγ.gl hr)
    · cases h
theorem a_lcmp_ok (hG : cW sv cd mi df el eb G) (hF : aFXm FX) (hrec : aSnd G h0 n0 cn0 sn0 Q tyt typs GS FX rec) (hγ : aGm h0 tyt typs GS FX ρ ls st fr mem env fx gh ne g lsc stc frc) (hd : dd ≤ d) (hc : cC cd y pc (.lcmp, nx, tg, r1, r2)) (h : a_lcmp rec nx y dd ls st fr mem env fx gh ne = true) : cTF G h0 n0 cn0 sn0 Q frc y d pc lsc stc g := by
  obtain ⟨b, a, r, vb, va, rc, rfl, rfl, tb, ta, hb, ha, hs, k⟩ := a_two h hγ.gs
  obtain ⟨x, rfl, hx, hxe⟩ := a_lngv ha ta
  obtain ⟨z, rfl, hz, hze⟩ := a_lngv hb tb
  rw [efrc_eq] at k
  refine cT_lcmp hG hc hx hz (a_n0 hF hrec hγ hd k hγ.gl (fun τ hτ => ⟨?_, hs τ hτ⟩))
  show (0, csgn (x - z)) = (0, csgn (ev τ (eadd a.2.2 b.2.2 (-1))))
  rw [eadd_ev, hxe τ hτ, hze τ hτ]
  congr 2
  omega
/-- one key that is met -/
theorem a_eqg (hF : aFXm FX) (hrec : aSnd G h0 n0 cn0 sn0 Q tyt typs GS FX rec) (hγ : aGm h0 tyt typs GS FX ρ ls st fr mem env fx gh ne g lsc stc frc) (hd : dd ≤ d) {r : List av} {rc : List cv} (hs : aC ne ρ (fun τ => stR tyt τ r rc)) {o : Jvm.ClassFile.Cond} {e : ae} {z v : Int} {pc' : Nat} (hz : aC ne ρ (fun τ => ev τ e = z)) (ho : crel o (z - v) 0 = true)
    (k : efrc (eadc e (Int.neg v)) (fun x => acnd o env fx x (fun env fx => rec y dd pc' ls r fr mem env fx gh ne)) = true) : cTF G h0 n0 cn0 sn0 Q frc y d pc' lsc rc g := by
  rw [efrc_eq] at k
  refine a_cg (sp := false) (o := o) (e := eadc e (Int.neg v)) (z := z - v) hF hrec hγ hd hs (fun τ hτ => by show ev τ _ = _; rw [eadc_ev, hz τ hτ]; show z + -v = _; omega) ho ?_
  unfold acn2
  cases o <;> exact k
theorem atab_ok (hF : aFXm FX) (hrec : aSnd G h0 n0 cn0 sn0 Q tyt typs GS FX rec) (hγ : aGm h0 tyt typs GS FX ρ ls st fr mem env fx gh ne g lsc stc frc) (hd : dd ≤ d) {r : List av} {rc : List cv} (hs : aC ne ρ (fun τ => stR tyt τ r rc)) {e : ae} {z : Int} (hz : aC ne ρ (fun τ => ev τ e = z)) : ∀ (l : List Int) (v : Int), atab rec y dd pc ls fr mem env fx gh ne e r l v = true → ∀ i : Nat, z = v + (i : Int) → i < l.length → ∃ o, l[i]? = some o ∧ 0 ≤ (pc : Int) + o ∧ cTF G h0 n0 cn0 sn0 Q frc y d ((pc : Int) + o).toNat lsc rc g
  | [], _, _, i, _, hi => absurd hi (Nat.not_lt_zero i)
  | o :: l, v, h, i, hzi, hi => by
    unfold atab at h
    obtain ⟨h1, h2⟩ := xcnb h
    obtain ⟨h3, h4⟩ := xcnb h1
    rw [zfrc_eq] at h2
    cases i with
    | zero =>
      exact ⟨o, rfl, zle_iff.mp h3, a_eqg (o := .eq) hF hrec hγ hd hs hz (decide_eq_true (by omega)) h4⟩
    | succ i =>
      obtain ⟨o2, q1, q2, q3⟩ := atab_ok hF hrec hγ hd hs hz l (Int.add v 1) h2 i (by show z = v + 1 + (i : Int); omega) (by simp at hi; omega)
      exact ⟨o2, q1, q2, q3⟩
theorem a_tab_ok (hG : cW sv cd mi df el eb G) (hF : aFXm FX) (hrec : aSnd G h0 n0 cn0 sn0 Q tyt typs GS FX rec) (hγ : aGm h0 tyt typs GS FX ρ ls st fr mem env fx gh ne g lsc stc frc) (hd : dd ≤ d) {a b e : Int} {f : Array Int} (hc : cC cd y pc (.tableswitch a b e f, nx, tg, r1, r2)) (h : a_tab rec y dd pc ls st fr mem env fx gh ne a b e f = true) : cTF G h0 n0 cn0 sn0 Q frc y d pc lsc stc g := by
  unfold a_tab at h
  match st, hγ, h with
  | [], _, h => cases h
  | w :: r, hγ, h =>
    obtain ⟨g1, g2⟩ := xcnb h
    obtain ⟨g3, g4⟩ := xand g1
    obtain ⟨g5, g6⟩ := xand g3
    obtain ⟨g7, g8⟩ := xcnb g2
    obtain ⟨g9, g10⟩ := xcnb g8
    have g4 : e + 1 + -b = (f.size : Int) := zeq_iff.mp g4
    have g6 : 0 ≤ (pc : Int) + a := zle_iff.mp g6
    obtain ⟨v, rc, rfl, hv, hr⟩ := a_top hγ.gs
    obtain ⟨z, rfl, hz, hze⟩ := a_int hv (xeqb g5)
    by_cases h1 : z < b
    · refine cT_tab (t := ((pc : Int) + a).toNat) hG hc hz (by unfold xts; rw [if_pos (Or.inl h1), if_pos g6]) ?_
      exact a_eqg (o := .lt) hF hrec hγ hd hr hze (decide_eq_true (by omega)) g7
    · by_cases h2 : e < z
      · refine cT_tab (t := ((pc : Int) + a).toNat) hG hc hz (by unfold xts; rw [if_pos (Or.inr h2), if_pos g6]) ?_
        exact a_eqg (o := .gt) hF hrec hγ hd hr hze (decide_eq_true (by omega)) g9
      · obtain ⟨o, q1, q2, q3⟩ := atab_ok hF hrec hγ hd hr hze f.toList b g10 (z - b).toNat (by omega) (by rw [Array.length_toList]; omega)
        refine cT_tab (t := ((pc : Int) + o).toNat) hG hc hz ?_ q3
        unfold xts
        rw [if_neg (by omega)]
        rw [Array.getElem?_toList] at q1
        rw [q1]
        dsimp only
        rw [if_pos q2]
theorem alkp_ok (hF : aFXm FX) (hrec : aSnd G h0 n0 cn0 sn0 Q tyt typs GS FX rec) (hd : dd ≤ d) {r : List av} {rc : List cv} {e : ae} {z dflt : Int} : ∀ (l : List (Int × Int)) (env : aenv) (fx : List ae), alkp rec y dd pc ls fr mem gh ne e r dflt l env fx = true → aGm h0 tyt typs GS FX ρ ls st fr mem env fx gh ne g lsc stc frc → aC ne ρ (fun τ => stR tyt τ r rc) → aC ne ρ (fun τ => ev τ e = z) → 0 ≤ (pc : Int) + Op.lookupswitch.offset l dflt z ∧ cTF G h0 n0 cn0 sn0 Q frc y d ((pc : Int) + Op.lookupswitch.offset l dflt z).toNat lsc rc g
  | [], env, fx, h, hγ, hs, hz => by
    obtain ⟨h1, h2⟩ := xcnb (show cond (zle 0 (Int.add (pc : Int) dflt)) (rec y dd (Int.add (pc : Int) dflt).toNat ls r fr mem env fx gh ne) false = true from h)
    exact ⟨zle_iff.mp h1, a_n0 hF hrec hγ hd h2 hγ.gl hs⟩
  | q :: l, env, fx, h, hγ, hs, hz => by
    unfold alkp at h
    rw [efrc_eq] at h
    obtain ⟨h1, h2⟩ := xcnb h
    obtain ⟨h3, h4⟩ := xcnb h1
    obtain ⟨h5, h6⟩ := xcnb h2
    obtain ⟨k, o⟩ := q
    rw [Op.lookupswitch.offset_cons]
    have hev : ∀ τ, aag ne ρ τ → ev τ (eadc e (Int.neg k)) = z - k := fun τ hτ => by rw [eadc_ev, hz τ hτ]; show z + -k = _; omega
    by_cases hk : k = z
    · rw [if_pos hk]
      exact ⟨zle_iff.mp h3, a_cg (sp := false) (o := .eq) (z := z - k) hF hrec hγ hd hs hev (decide_eq_true (by omega)) h4⟩
    · rw [if_neg hk]
      have go : ∀ o2 : Jvm.ClassFile.Cond, crel o2 (z - k) 0 = true → acnd o2 env fx (eadc e (Int.neg k)) (fun env fx => alkp rec y dd pc ls fr mem gh ne e r dflt l env fx) = true → 0 ≤ (pc : Int) + Op.lookupswitch.offset l dflt z ∧ cTF G h0 n0 cn0 sn0 Q frc y d ((pc : Int) + Op.lookupswitch.offset l dflt z).toNat lsc rc g := by
        intro o2 m1 m2
        obtain ⟨env', fx', k1, k2⟩ := acnd_ok (P := aag ne ρ) ⟨ρ, aag.rf ne ρ⟩ m2 (fun τ hτ => ⟨(hγ.1 τ hτ).1, (hγ.1 τ hτ).2.1, by rw [hev τ hτ]; exact m1⟩)
        exact alkp_ok hF hrec hd l env' fx' k1 ⟨fun τ hτ => coR_env (hγ.1 τ hτ) (k2 τ hτ).1 (k2 τ hτ).2, hγ.2.1, hγ.2.2.1, hγ.2.2.2⟩ hs hz
      by_cases hl : z < k
      · exact go .lt (decide_eq_true (by omega)) h5
      · exact go .gt (decide_eq_true (by omega)) h6
theorem a_lkp_ok (hG : cW sv cd mi df el eb G) (hF : aFXm FX) (hrec : aSnd G h0 n0 cn0 sn0 Q tyt typs GS FX rec) (hγ : aGm h0 tyt typs GS FX ρ ls st fr mem env fx gh ne g lsc stc frc) (hd : dd ≤ d) {a : Int} {f : Array (Int × Int)} (hc : cC cd y pc (.lookupswitch a f, nx, tg, r1, r2)) (h : a_lkp rec y dd pc ls st fr mem env fx gh ne a f = true) : cTF G h0 n0 cn0 sn0 Q frc y d pc lsc stc g := by
  unfold a_lkp at h
  obtain ⟨w, r, v, rc, rfl, rfl, tw, hv, hr, k⟩ := a_one h hγ.gs
  obtain ⟨z, rfl, hz, hze⟩ := a_int hv tw
  obtain ⟨k1, k2⟩ := alkp_ok hF hrec hd f.toList env fx k hγ hr hze
  exact cT_lkp hG hc hz k1 k2
end Snd4
