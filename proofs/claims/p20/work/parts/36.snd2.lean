/-! The step is right: instructions of a frame -/
section Snd2
variable {sv : Nat → Int32} {cd : xcd} {mi : xmi} {df : xdf} {el : Nat → Nat} {eb : Nat → List Nat} {G : xG} {h0 : xheap} {n0 : Nat} {cn0 sn0 : Nat → Nat} {Q : cg → Option cv → Prop}
variable {tyt : Lean.RArray (Nat × Nat)} {typs : Lean.RArray (Nat × aty)} {GS : gho → (Nat → Int) → cg → Prop} {FX : (Nat → Int) → Nat → cg → Prop}
variable {rec : aF} {y d dd pc nx tg r1 r2 : Nat} {ins : Instr} {ls : List (Nat × av)} {st : List av} {fr : List afr} {mem : List am} {env : aenv} {fx : List ae} {gh : List gho} {ne : Nat} {ρ : Nat → Int} {g : cg} {lsc : List (Nat × cv)} {stc : List cv} {frc : List cfr}
/-- the next state, whatever it is -/
theorem a_nx (hF : aFXm FX) (hrec : aSnd G h0 n0 cn0 sn0 Q tyt typs GS FX rec) (hI : aInv tyt typs g) (hX : FX ρ ne g) (hd : dd ≤ d) {pc' : Nat} {ls' : List (Nat × av)} {st' : List av} {mem' : List am} {env' : aenv} {fx' : List ae} {gh' : List gho} {ne' : Nat} {ρ' : Nat → Int} {lsc' : List (Nat × cv)} {stc' : List cv}
    (h : rec y dd pc' ls' st' fr mem' env' fx' gh' ne' = true) (hn : ne ≤ ne') (ha : aag ne ρ ρ') (hC : aC ne' ρ' (coR h0 tyt GS env' fx' mem' gh' g)) (hl : aC ne' ρ' (fun τ => lsR tyt τ ls' lsc')) (hs : aC ne' ρ' (fun τ => stR tyt τ st' stc')) (hf : aC ne ρ (fun τ => frR tyt τ fr frc)) : cTF G h0 n0 cn0 sn0 Q frc y d pc' lsc' stc' g :=
  hrec _ _ _ _ _ _ _ _ _ _ _ h ρ' g lsc' stc' frc d ⟨hC, fun τ hτ => ⟨hl τ hτ, hs τ hτ, hf.mono hn ha τ hτ⟩, hI, hF _ _ _ _ _ hX hn ha⟩ hd
/-- the same symbols -/
theorem a_n0 (hF : aFXm FX) (hrec : aSnd G h0 n0 cn0 sn0 Q tyt typs GS FX rec) (hγ : aGm h0 tyt typs GS FX ρ ls st fr mem env fx gh ne g lsc stc frc) (hd : dd ≤ d) {pc' : Nat} {ls' : List (Nat × av)} {st' : List av} {lsc' : List (Nat × cv)} {stc' : List cv}
    (h : rec y dd pc' ls' st' fr mem env fx gh ne = true) (hl : aC ne ρ (fun τ => lsR tyt τ ls' lsc')) (hs : aC ne ρ (fun τ => stR tyt τ st' stc')) : cTF G h0 n0 cn0 sn0 Q frc y d pc' lsc' stc' g :=
  a_nx hF hrec hγ.2.2.1 hγ.2.2.2 hd h (Nat.le_refl _) (aag.rf _ _) hγ.1 hl hs (hγ.2.1.imp (fun _ x => x.2.2))
theorem a_nr (hF : aFXm FX) (hrec : aSnd G h0 n0 cn0 sn0 Q tyt typs GS FX rec) (hγ : aGm h0 tyt typs GS FX ρ ls st fr mem env fx gh ne g lsc stc frc) (hd : dd ≤ d) {pc' : Nat} {r : List av} {rc : List cv} {v0 : cv}
    (hs : aC ne ρ (fun τ => stR tyt τ r rc)) (h : aRes h0 tyt GS env fx mem gh ne ρ g (fun v env ne => rec y dd pc' ls (v :: r) fr mem env fx gh ne) v0) : cTF G h0 n0 cn0 sn0 Q frc y d pc' lsc (v0 :: rc) g := by
  obtain ⟨v, env', ne', ρ', h1, h2, h3, h4, h5⟩ := h
  exact a_nx hF hrec hγ.2.2.1 hγ.2.2.2 hd h1 h2 h3 h4 ((hγ.2.1.imp (fun _ x => x.1)).mono h2 h3) (fun τ hτ => ⟨h5 τ hτ, hs.mono h2 h3 τ hτ⟩) (hγ.2.1.imp (fun _ x => x.2.2))
theorem aGm.gl (hγ : aGm h0 tyt typs GS FX ρ ls st fr mem env fx gh ne g lsc stc frc) : aC ne ρ (fun τ => lsR tyt τ ls lsc) := hγ.2.1.imp (fun _ x => x.1)
theorem aGm.gs (hγ : aGm h0 tyt typs GS FX ρ ls st fr mem env fx gh ne g lsc stc frc) : aC ne ρ (fun τ => stR tyt τ st stc) := hγ.2.1.imp (fun _ x => x.2.1)
/-- the stack's top -/
theorem a_top {a : av} {r : List av} (h : aC ne ρ (fun τ => stR tyt τ (a :: r) stc)) : ∃ v rc, stc = v :: rc ∧ aC ne ρ (fun τ => avR tyt τ a v) ∧ aC ne ρ (fun τ => stR tyt τ r rc) := by
  obtain ⟨v, rc, e, -, -⟩ := stR_cons h.self
  subst e
  exact ⟨v, rc, rfl, h.imp (fun _ x => x.1), h.imp (fun _ x => x.2)⟩
theorem a_int {a : av} {v : cv} (h : aC ne ρ (fun τ => avR tyt τ a v)) (ht : a.1 = 0) : ∃ z, v = (0, z) ∧ cI z ∧ aC ne ρ (fun τ => ev τ a.2.2 = z) := by
  obtain ⟨h1, h2⟩ := avR_int h.self ht
  refine ⟨_, h1, h2, fun τ hτ => ?_⟩
  have := (avR_int (h τ hτ) ht).1
  rw [h1] at this
  exact (congrArg Prod.snd this).symm
theorem a_lngv {a : av} {v : cv} (h : aC ne ρ (fun τ => avR tyt τ a v)) (ht : a.1 = 2) : ∃ z, v = (2, z) ∧ cL z ∧ aC ne ρ (fun τ => ev τ a.2.2 = z) := by
  obtain ⟨h1, h2⟩ := avR_lng h.self ht
  refine ⟨_, h1, h2, fun τ hτ => ?_⟩
  have := (avR_lng (h τ hτ) ht).1
  rw [h1] at this
  exact (congrArg Prod.snd this).symm
theorem avR_mk0 {z : Int} (hz : cI z) : ∀ (τ : Nat → Int) (x : ae), ev τ x = z → avR tyt τ (0, 0, x) (0, z) := fun τ x e => ⟨by rw [e], by rw [e]; exact hz⟩
theorem avR_mk2 {z : Int} (hz : cL z) : ∀ (τ : Nat → Int) (x : ae), ev τ x = z → avR tyt τ (2, 0, x) (2, z) := fun τ x e => ⟨by rw [e], by rw [e]; exact hz⟩
theorem evc (τ : Nat → Int) (z : Int) : ev τ ((z, []) : ae) = z := ecst_ev τ z
theorem a_psh_ok (hG : cW sv cd mi df el eb G) (hF : aFXm FX) (hrec : aSnd G h0 n0 cn0 sn0 Q tyt typs GS FX rec) (hc : cC cd y pc (ins, nx, tg, r1, r2)) (hγ : aGm h0 tyt typs GS FX ρ ls st fr mem env fx gh ne g lsc stc frc) (hd : dd ≤ d) (he : ∀ (rec : xF) (lx : List (Nat × xv)) (sx : List xv) (h : xheap), xex mi df el eb rec ins nx tg r1 r2 y d pc lx sx [] h n0 (cn0 y) (sn0 y) = rec y d nx lx ((0, r1) :: sx) [] h n0 (cn0 y) (sn0 y)) (hdn : ∀ (lf : dlf) (sx : List cv) (g : cg), dnx h0 sv mi el eb ins nx tg r1 r2 pc lf sx g = dnxt nx lf ((0, (nI r1).toInt) :: sx) g) (hr : r1 < 4294967296) (h : a_psh rec nx y dd ls st fr mem env fx gh ne (sI r1) = true) : cTF G h0 n0 cn0 sn0 Q frc y d pc lsc stc g := by
  unfold a_psh at h
  rw [zfrc_eq] at h
  refine cT_push hG hc he hdn ?_
  rw [sI_ok hr]
  refine a_n0 hF hrec hγ hd h hγ.gl (fun τ hτ => ⟨avR_mk0 ?_ τ _ (evc τ _), hγ.gs τ hτ⟩)
  rw [← sI_ok hr]
  exact cI_of _
theorem a_pshL_ok (hG : cW sv cd mi df el eb G) (hF : aFXm FX) (hrec : aSnd G h0 n0 cn0 sn0 Q tyt typs GS FX rec) (hc : cC cd y pc (ins, nx, tg, r1, r2)) (hγ : aGm h0 tyt typs GS FX ρ ls st fr mem env fx gh ne g lsc stc frc) (hd : dd ≤ d) (he : ∀ (rec : xF) (lx : List (Nat × xv)) (sx : List xv) (h : xheap), xex mi df el eb rec ins nx tg r1 r2 y d pc lx sx [] h n0 (cn0 y) (sn0 y) = rec y d nx lx ((2, r1) :: sx) [] h n0 (cn0 y) (sn0 y)) (hdn : ∀ (lf : dlf) (sx : List cv) (g : cg), dnx h0 sv mi el eb ins nx tg r1 r2 pc lf sx g = dnxt nx lf ((2, (lN r1).toInt) :: sx) g) (hr : r1 < 18446744073709551616) (h : a_pshL rec nx y dd ls st fr mem env fx gh ne (sL r1) = true) : cTF G h0 n0 cn0 sn0 Q frc y d pc lsc stc g := by
  unfold a_pshL at h
  rw [zfrc_eq] at h
  refine cT_pushL hG hc he hdn ?_
  rw [sL_ok hr]
  refine a_n0 hF hrec hγ hd h hγ.gl (fun τ hτ => ⟨avR_mk2 ?_ τ _ (evc τ _), hγ.gs τ hτ⟩)
  rw [← sL_ok hr]
  exact cL_of _
theorem a_pshV_ok (hG : cW sv cd mi df el eb G) (hF : aFXm FX) (hrec : aSnd G h0 n0 cn0 sn0 Q tyt typs GS FX rec) (hc : cC cd y pc (ins, nx, tg, r1, r2)) (hγ : aGm h0 tyt typs GS FX ρ ls st fr mem env fx gh ne g lsc stc frc) (hd : dd ≤ d) {a : av} {v : cv} (hv : ∀ τ, avR tyt τ a v) (he : ∀ (rec : xF) (lx : List (Nat × xv)) (sx : List xv) (h : xheap), xex mi df el eb rec ins nx tg r1 r2 y d pc lx sx [] h n0 (cn0 y) (sn0 y) = rec y d nx lx (cenc v :: sx) [] h n0 (cn0 y) (sn0 y)) (hdn : ∀ (lf : dlf) (sx : List cv) (g : cg), dnx h0 sv mi el eb ins nx tg r1 r2 pc lf sx g = dnxt nx lf (v :: sx) g) (h : rec y dd nx ls (a :: st) fr mem env fx gh ne = true) : cTF G h0 n0 cn0 sn0 Q frc y d pc lsc stc g :=
  cT_pushV hG hc he hdn (a_n0 hF hrec hγ hd h hγ.gl (fun τ hτ => ⟨hv τ, hγ.gs τ hτ⟩))
theorem xor9 {x k1 k2 : Nat} (h : (Nat.beq x k1 || Nat.beq x k2) = true) : x = k1 ∨ x = k2 := (xor2 h).imp xeqb xeqb
theorem a_ld_ok (hG : cW sv cd mi df el eb G) (hF : aFXm FX) (hrec : aSnd G h0 n0 cn0 sn0 Q tyt typs GS FX rec) (hc : cC cd y pc (ins, nx, tg, r1, r2)) (hγ : aGm h0 tyt typs GS FX ρ ls st fr mem env fx gh ne g lsc stc frc) (hd : dd ≤ d) {k1 k2 : Nat} (h1 : k1 ≠ 9) (h2 : k2 ≠ 9) (he : ∀ (rec : xF) (lx : List (Nat × xv)) (sx : List xv) (h : xheap), xex mi df el eb rec ins nx tg r1 r2 y d pc lx sx [] h n0 (cn0 y) (sn0 y) = x_ld rec nx r1 y d lx sx [] h n0 (cn0 y) (sn0 y) k1 k2) (hdn : ∀ (lf : dlf) (sx : List cv) (g : cg), dnx h0 sv mi el eb ins nx tg r1 r2 pc lf sx g = dnxt nx lf (lf r1 :: sx) g) (h : a_ld rec nx r1 y dd ls st fr mem env fx gh ne k1 k2 = true) : cTF G h0 n0 cn0 sn0 Q frc y d pc lsc stc g := by
  unfold a_ld at h
  cases ha : alk ls r1 with
  | none => rw [ha] at h; cases h
  | some w =>
    rw [ha] at h
    obtain ⟨g1, g2⟩ := xcnb h
    obtain ⟨v, e1, e2⟩ := lsR_lk hγ.gl.self ha
    have hk : xkd v.1 = k1 ∨ xkd v.1 = k2 := (xor9 g1).imp (fun z => avR_kd2 e2 z h1) (fun z => avR_kd2 e2 z h2)
    refine cT_ld hG hc he hdn e1 hk (a_n0 hF hrec hγ hd g2 hγ.gl (fun τ hτ => ⟨?_, hγ.gs τ hτ⟩))
    obtain ⟨v', e3, e4⟩ := lsR_lk (hγ.gl τ hτ) ha
    have : v' = v := Option.some.inj (e3.symm.trans e1)
    rw [← this]; exact e4
theorem a_st_ok (hG : cW sv cd mi df el eb G) (hF : aFXm FX) (hrec : aSnd G h0 n0 cn0 sn0 Q tyt typs GS FX rec) (hc : cC cd y pc (ins, nx, tg, r1, r2)) (hγ : aGm h0 tyt typs GS FX ρ ls st fr mem env fx gh ne g lsc stc frc) (hd : dd ≤ d) {k1 k2 : Nat} {f : Nat → Nat × xv → Bool} (h1 : k1 ≠ 9) (h2 : k2 ≠ 9) (hf : ∀ (i j : Nat) (w : xv), f i (j, w) = f i (j, (w.1, 0))) (hfk : ∀ (i j t t' : Nat), Nat.beq (xkd t) 1 = Nat.beq (xkd t') 1 → f i (j, (t, 0)) = f i (j, (t', 0))) (hfz : ∀ (i : Nat) (w : xv), f i (i, w) = false) (he : ∀ (rec : xF) (lx : List (Nat × xv)) (sx : List xv) (h : xheap), xex mi df el eb rec ins nx tg r1 r2 y d pc lx sx [] h n0 (cn0 y) (sn0 y) = x_st rec nx r1 y d lx sx [] h n0 (cn0 y) (sn0 y) k1 k2 f) (hdn : ∀ (lf : dlf) (sx : List cv) (g : cg), dnx h0 sv mi el eb ins nx tg r1 r2 pc lf sx g = d_sto nx r1 lf sx g) (h : a_st rec nx r1 y dd ls st fr mem env fx gh ne k1 k2 f = true) : cTF G h0 n0 cn0 sn0 Q frc y d pc lsc stc g := by
  unfold a_st at h
  match st, hγ, h with
  | [], _, h => cases h
  | w :: r, hγ, h =>
    obtain ⟨g1, g2⟩ := xcnb h
    rw [aflt_eq] at g2
    obtain ⟨v, rc, rfl, hv, hr⟩ := a_top hγ.gs
    have hk : xkd v.1 = k1 ∨ xkd v.1 = k2 := (xor9 g1).imp (fun z => avR_kd2 hv.self z h1) (fun z => avR_kd2 hv.self z h2)
    exact cT_sto hG hc hf hfz he hdn hk (a_n0 hF hrec hγ hd g2 (fun τ hτ => ⟨rfl, hv τ hτ, lsR_flt hfk (hγ.gl τ hτ)⟩) hr)
theorem a_inc_ok (hG : cW sv cd mi df el eb G) (hF : aFXm FX) (hrec : aSnd G h0 n0 cn0 sn0 Q tyt typs GS FX rec) (hγ : aGm h0 tyt typs GS FX ρ ls st fr mem env fx gh ne g lsc stc frc) (hd : dd ≤ d) {i : Nat} {z : Int} (hc : cC cd y pc (.iinc i z, nx, tg, r1, r2)) (h : a_inc rec nx r1 r2 y dd ls st fr mem env fx gh ne = true) : cTF G h0 n0 cn0 sn0 Q frc y d pc lsc stc g := by
  unfold a_inc at h
  cases ha : alk ls r1 with
  | none => rw [ha] at h; cases h
  | some w =>
    rw [ha] at h
    obtain ⟨g1, g2⟩ := xcnb h
    obtain ⟨g3, g4⟩ := xand g1
    rw [efrc_eq] at g2
    obtain ⟨v, e1, e2⟩ := lsR_lk hγ.gl.self ha
    have hv : aC ne ρ (fun τ => avR tyt τ w v) := fun τ hτ => by
      obtain ⟨v', e3, e4⟩ := lsR_lk (hγ.gl τ hτ) ha
      have : v' = v := Option.some.inj (e3.symm.trans e1)
      rw [← this]; exact e4
    obtain ⟨x, rfl, hx, hxe⟩ := a_int hv (xeqb g3)
    refine cT_inc hG hc e1 ?_
    have hcI := cI_of (i32 x + nI r2)
    have hres := aar_ok (v0 := (0, (i32 x + nI r2).toInt)) (z := (i32 x + nI r2).toInt) hγ.1 ⟨hcI.1, by have := hcI.2; omega⟩ (fun τ hτ b1 b2 => by
      rw [eadc_ev, hxe τ hτ] at b1 b2 ⊢
      have e3 : nI r2 = i32 (sI r2) := by rw [← sI_ok (xltb g4), i32_of]
      rw [e3, i32_add, i32_int]
      unfold cI
      omega) (avR_mk0 hcI) g2
    obtain ⟨v, env', ne', ρ', q1, q2, q3, q4, q5⟩ := hres
    dsimp only at q1
    rw [aflt_eq] at q1
    exact a_nx hF hrec hγ.2.2.1 hγ.2.2.2 hd q1 q2 q3 q4 (fun τ hτ => ⟨rfl, q5 τ hτ, lsR_flt xk1_kd (hγ.gl.mono q2 q3 τ hτ)⟩) (hγ.gs.mono q2 q3) (hγ.2.1.imp (fun _ x => x.2.2))
/-- two ints; two longs -/
theorem a_two {tag : Nat} {k : av → av → List av → Bool} (h : (match st with
    | b :: a :: r => cond (Nat.beq b.1 tag && Nat.beq a.1 tag) (k b a r) false
    | _ => false) = true) (hs : aC ne ρ (fun τ => stR tyt τ st stc)) : ∃ b a r vb va rc, st = b :: a :: r ∧ stc = vb :: va :: rc ∧ b.1 = tag ∧ a.1 = tag ∧ aC ne ρ (fun τ => avR tyt τ b vb) ∧ aC ne ρ (fun τ => avR tyt τ a va) ∧ aC ne ρ (fun τ => stR tyt τ r rc) ∧ k b a r = true := by
  match st, hs, h with
  | [], _, h => cases h
  | [_], _, h => cases h
  | b :: a :: r, hs, h =>
    obtain ⟨g1, g2⟩ := xcnb h
    obtain ⟨g3, g4⟩ := xand g1
    obtain ⟨vb, rc1, rfl, hb, hs1⟩ := a_top hs
    obtain ⟨va, rc, rfl, ha, hs2⟩ := a_top hs1
    exact ⟨b, a, r, vb, va, rc, rfl, rfl, xeqb g3, xeqb g4, hb, ha, hs2, g2⟩
theorem a_addI_ok (hG : cW sv cd mi df el eb G) (hF : aFXm FX) (hrec : aSnd G h0 n0 cn0 sn0 Q tyt typs GS FX rec) (hc : cC cd y pc (ins, nx, tg, r1, r2)) (hγ : aGm h0 tyt typs GS FX ρ ls st fr mem env fx gh ne g lsc stc frc) (hd : dd ≤ d) {f : Nat → Nat → Nat} {F : Int32 → Int32 → Int32} {s : Int} (he : ∀ (rec : xF) (lx : List (Nat × xv)) (sx : List xv) (h : xheap), xex mi df el eb rec ins nx tg r1 r2 y d pc lx sx [] h n0 (cn0 y) (sn0 y) = x_bi rec nx y d lx sx [] h n0 (cn0 y) (sn0 y) f) (hdn : ∀ (lf : dlf) (sx : List cv) (g : cg), dnx h0 sv mi el eb ins nx tg r1 r2 pc lf sx g = d_bi F nx lf sx g) (hFf : ∀ a b, nI (f a b) = F (nI a) (nI b)) (hFs : ∀ a b, F (i32 a) (i32 b) = i32 (a + s * b))
    (h : a_add rec nx y dd ls st fr mem env fx gh ne 0 (-2147483648) 2147483647 s = true) : cTF G h0 n0 cn0 sn0 Q frc y d pc lsc stc g := by
  obtain ⟨b, a, r, vb, va, rc, rfl, rfl, tb, ta, hb, ha, hs, k⟩ := a_two h hγ.gs
  obtain ⟨x, rfl, hx, hxe⟩ := a_int ha ta
  obtain ⟨z, rfl, hz, hze⟩ := a_int hb tb
  rw [efrc_eq] at k
  refine cT_bi hG hc he hdn hFf ?_
  have hcI := cI_of (F (i32 x) (i32 z))
  refine a_nr hF hrec hγ hd hs (aar_ok hγ.1 ⟨hcI.1, by have := hcI.2; omega⟩ (fun τ hτ b1 b2 => ?_) (avR_mk0 hcI) k)
  rw [eadd_ev, hxe τ hτ, hze τ hτ] at b1 b2 ⊢
  rw [hFs, i32_int]
  unfold cI
  omega
theorem a_addL_ok (hG : cW sv cd mi df el eb G) (hF : aFXm FX) (hrec : aSnd G h0 n0 cn0 sn0 Q tyt typs GS FX rec) (hc : cC cd y pc (ins, nx, tg, r1, r2)) (hγ : aGm h0 tyt typs GS FX ρ ls st fr mem env fx gh ne g lsc stc frc) (hd : dd ≤ d) {f : Nat → Nat → Nat} {F : Int64 → Int64 → Int64} {s : Int} (he : ∀ (rec : xF) (lx : List (Nat × xv)) (sx : List xv) (h : xheap), xex mi df el eb rec ins nx tg r1 r2 y d pc lx sx [] h n0 (cn0 y) (sn0 y) = x_bl rec nx y d lx sx [] h n0 (cn0 y) (sn0 y) f) (hdn : ∀ (lf : dlf) (sx : List cv) (g : cg), dnx h0 sv mi el eb ins nx tg r1 r2 pc lf sx g = d_bl F nx lf sx g) (hFf : ∀ a b, lN (f a b) = F (lN a) (lN b)) (hFs : ∀ a b, F (i64 a) (i64 b) = i64 (a + s * b))
    (h : a_add rec nx y dd ls st fr mem env fx gh ne 2 (-9223372036854775808) 9223372036854775807 s = true) : cTF G h0 n0 cn0 sn0 Q frc y d pc lsc stc g := by
  obtain ⟨b, a, r, vb, va, rc, rfl, rfl, tb, ta, hb, ha, hs, k⟩ := a_two h hγ.gs
  obtain ⟨x, rfl, hx, hxe⟩ := a_lngv ha ta
  obtain ⟨z, rfl, hz, hze⟩ := a_lngv hb tb
  rw [efrc_eq] at k
  refine cT_bl hG hc he hdn hFf ?_
  have hcI := cL_of (F (i64 x) (i64 z))
  refine a_nr hF hrec hγ hd hs (aar_ok hγ.1 ⟨hcI.1, by have := hcI.2; omega⟩ (fun τ hτ b1 b2 => ?_) (avR_mk2 hcI) k)
  rw [eadd_ev, hxe τ hτ, hze τ hτ] at b1 b2 ⊢
  rw [hFs, i64_int]
  unfold cL
  omega
/-- a product: n is what the machine has, in its range -/
theorem a_mulv {tag : Nat} {lo hi : Int} {a b : av} {r : List av} {x z n : Int} {v0 : cv} (hC : aC ne ρ (coR h0 tyt GS env fx mem gh g)) (hxe : aC ne ρ (fun τ => ev τ a.2.2 = x)) (hze : aC ne ρ (fun τ => ev τ b.2.2 = z)) (hn : lo ≤ n ∧ n ≤ hi) (hnm : lo ≤ x * z → x * z ≤ hi → x * z = n) (hv : ∀ (τ : Nat → Int) (e : ae), ev τ e = n → avR tyt τ (tag, 0, e) v0)
    (k : efrc (enor env b.2.2) (fun eb => efrc (enor env a.2.2) (fun ea => match eb.2 with
      | [] => efrc (escl ea eb.1) (fun e => aar tag e lo hi env fx ne (fun v env ne => rec y dd nx ls (v :: r) fr mem env fx gh ne))
      | _ => match ea.2 with
        | [] => efrc (escl eb ea.1) (fun e => aar tag e lo hi env fx ne (fun v env ne => rec y dd nx ls (v :: r) fr mem env fx gh ne))
        | _ => match ebd env [] ea with
          | none => false
          | some ia => match ebd env [] eb with
            | none => false
            | some ib => cond (zle lo (zmul4 ia.1 ia.2 ib.1 ib.2).1 && zle (zmul4 ia.1 ia.2 ib.1 ib.2).2 hi)
                (aany tag (zmul4 ia.1 ia.2 ib.1 ib.2).1 (zmul4 ia.1 ia.2 ib.1 ib.2).2 env ne (fun v env ne => rec y dd nx ls (v :: r) fr mem env fx gh ne))
                (aany tag lo hi env ne (fun v env ne => rec y dd nx ls (v :: r) fr mem env fx gh ne)))) = true) :
    aRes h0 tyt GS env fx mem gh ne ρ g (fun v env ne => rec y dd nx ls (v :: r) fr mem env fx gh ne) v0 := by
  rw [efrc_eq, efrc_eq] at k
  have hxe' : aC ne ρ (fun τ => ev τ (enor env a.2.2) = x) := fun τ hτ => (enor_ok (hC τ hτ).1 _).trans (hxe τ hτ)
  have hze' : aC ne ρ (fun τ => ev τ (enor env b.2.2) = z) := fun τ hτ => (enor_ok (hC τ hτ).1 _).trans (hze τ hτ)
  generalize enor env b.2.2 = eb at k hze'
  generalize enor env a.2.2 = ea at k hxe'
  split at k
  · rename_i hn0
    rw [efrc_eq] at k
    have e1 : eb.1 = z := by have := hze'.self; have e2 : ev ρ eb = eb.1 := by unfold ev; rw [hn0]; show _ + 0 = _; omega
                             omega
    refine aar_ok hC hn (fun τ hτ b1 b2 => ?_) hv k
    rw [escl_ev, hxe' τ hτ, e1, Int.mul_comm] at b1 b2 ⊢
    exact hnm b1 b2
  · split at k
    · rename_i hn0
      rw [efrc_eq] at k
      have e1 : ea.1 = x := by have := hxe'.self; have e2 : ev ρ ea = ea.1 := by unfold ev; rw [hn0]; show _ + 0 = _; omega
                               omega
      refine aar_ok hC hn (fun τ hτ b1 b2 => ?_) hv k
      rw [escl_ev, hze' τ hτ, e1] at b1 b2 ⊢
      exact hnm b1 b2
    · cases h1 : ebd env [] ea with
      | none => rw [h1] at k; cases k
      | some ia =>
        rw [h1] at k
        dsimp only at k
        cases h2 : ebd env [] eb with
        | none => rw [h2] at k; cases k
        | some ib =>
          rw [h2] at k
          dsimp only at k
          cases h3 : (zle lo (zmul4 ia.1 ia.2 ib.1 ib.2).1 && zle (zmul4 ia.1 ia.2 ib.1 ib.2).2 hi) with
          | false => rw [h3] at k; exact aany_ok hC hn hv k
          | true =>
            rw [h3] at k
            obtain ⟨h4, h5⟩ := xand h3
            have h4 := zle_iff.mp h4
            have h5 := zle_iff.mp h5
            have f0 : fxR [] ρ := fun _ z => absurd z List.not_mem_nil
            have i1 := ebd_ok hC.self.1 f0 h1
            have i2 := ebd_ok hC.self.1 f0 h2
            rw [hxe'.self] at i1
            rw [hze'.self] at i2
            have i3 := zmul4_ok i1.1 i1.2 i2.1 i2.2
            have e := hnm (by omega) (by omega)
            rw [e] at i3
            exact aany_ok hC i3 hv k
theorem a_mulI_ok (hG : cW sv cd mi df el eb G) (hF : aFXm FX) (hrec : aSnd G h0 n0 cn0 sn0 Q tyt typs GS FX rec) (hγ : aGm h0 tyt typs GS FX ρ ls st fr mem env fx gh ne g lsc stc frc) (hd : dd ≤ d) (hc : cC cd y pc (.imul, nx, tg, r1, r2)) (h : a_mul rec nx y dd ls st fr mem env fx gh ne 0 (-2147483648) 2147483647 = true) : cTF G h0 n0 cn0 sn0 Q frc y d pc lsc stc g := by
  obtain ⟨b, a, r, vb, va, rc, rfl, rfl, tb, ta, hb, ha, hs, k⟩ := a_two h hγ.gs
  obtain ⟨x, rfl, hx, hxe⟩ := a_int ha ta
  obtain ⟨z, rfl, hz, hze⟩ := a_int hb tb
  refine cT_bi (F := fun x z => x * z) hG hc (fun _ _ _ _ => rfl) (fun lf sx g => d_adi_ok i32_mul nx lf sx g) (fun a b => by rw [x32, pk_mul]) ?_
  have hcI := cI_of (i32 x * i32 z)
  refine a_nr hF hrec hγ hd hs (a_mulv hγ.1 hxe hze ⟨hcI.1, by have := hcI.2; omega⟩ (fun b1 b2 => ?_) (avR_mk0 hcI) k)
  rw [i32_mul, i32_int]
  unfold cI
  omega
theorem a_mulL_ok (hG : cW sv cd mi df el eb G) (hF : aFXm FX) (hrec : aSnd G h0 n0 cn0 sn0 Q tyt typs GS FX rec) (hγ : aGm h0 tyt typs GS FX ρ ls st fr mem env fx gh ne g lsc stc frc) (hd : dd ≤ d) (hc : cC cd y pc (.lmul, nx, tg, r1, r2)) (h : a_mul rec nx y dd ls st fr mem env fx gh ne 2 (-9223372036854775808) 9223372036854775807 = true) : cTF G h0 n0 cn0 sn0 Q frc y d pc lsc stc g := by
  obtain ⟨b, a, r, vb, va, rc, rfl, rfl, tb, ta, hb, ha, hs, k⟩ := a_two h hγ.gs
  obtain ⟨x, rfl, hx, hxe⟩ := a_lngv ha ta
  obtain ⟨z, rfl, hz, hze⟩ := a_lngv hb tb
  refine cT_bl (F := fun x z => x * z) hG hc (fun _ _ _ _ => rfl) (fun lf sx g => d_adl_ok i64_mul nx lf sx g) (fun a b => lN_xnl _) ?_
  have hcI := cL_of (i64 x * i64 z)
  refine a_nr hF hrec hγ hd hs (a_mulv hγ.1 hxe hze ⟨hcI.1, by have := hcI.2; omega⟩ (fun b1 b2 => ?_) (avR_mk2 hcI) k)
  rw [i64_mul, i64_int]
  unfold cL
  omega
/-- a quotient -/
theorem a_divv {tag : Nat} {lo hi : Int} {a b : av} {r : List av} {x z n : Int} {v0 : cv} (hC : aC ne ρ (coR h0 tyt GS env fx mem gh g)) (hxe : aC ne ρ (fun τ => ev τ a.2.2 = x)) (hze : aC ne ρ (fun τ => ev τ b.2.2 = z)) (hn : lo ≤ n ∧ n ≤ hi) (hx : x ≤ hi) (hnm : 0 ≤ x → 0 < z → x.tdiv z = n) (hv : ∀ (τ : Nat → Int) (e : ae), ev τ e = n → avR tyt τ (tag, 0, e) v0)
    (k : (match ebd env fx a.2.2 with
      | none => false
      | some ia => match ebd env fx b.2.2 with
        | none => false
        | some ib => cond (zlt 0 ib.1 || zlt ib.2 0)
            (cond (zle 0 ia.1 && zlt 0 ib.1) (aany tag (Int.ediv ia.1 ib.2) (Int.ediv ia.2 ib.1) env ne (fun v env ne => rec y dd nx ls (v :: r) fr mem env fx gh ne))
              (aany tag lo hi env ne (fun v env ne => rec y dd nx ls (v :: r) fr mem env fx gh ne))) false) = true) :
    z ≠ 0 ∧ aRes h0 tyt GS env fx mem gh ne ρ g (fun v env ne => rec y dd nx ls (v :: r) fr mem env fx gh ne) v0 := by
  cases h1 : ebd env fx a.2.2 with
  | none => rw [h1] at k; cases k
  | some ia =>
    rw [h1] at k
    dsimp only at k
    cases h2 : ebd env fx b.2.2 with
    | none => rw [h2] at k; cases k
    | some ib =>
      rw [h2] at k
      dsimp only at k
      obtain ⟨k0, k⟩ := xcnb k
      have i1 := ebd_ok hC.self.1 hC.self.2.1 h1
      have i2 := ebd_ok hC.self.1 hC.self.2.1 h2
      rw [hxe.self] at i1
      rw [hze.self] at i2
      have hz0 : z ≠ 0 := by
        rcases xor2 k0 with q | q
        · have := zlt_iff.mp q; omega
        · have := zlt_iff.mp q; omega
      refine ⟨hz0, ?_⟩
      cases h3 : (zle 0 ia.1 && zlt 0 ib.1) with
      | false => rw [h3] at k; exact aany_ok hC hn hv k
      | true =>
        rw [h3] at k
        obtain ⟨h4, h5⟩ := xand h3
        have h4 := zle_iff.mp h4
        have h5 := zlt_iff.mp h5
        have e := hnm (by omega) (by omega)
        have i3 := tdiv_in i1.1 i1.2 i2.1 i2.2 h4 h5
        rw [e] at i3
        exact aany_ok hC i3 hv k
theorem a_divI_ok (hG : cW sv cd mi df el eb G) (hF : aFXm FX) (hrec : aSnd G h0 n0 cn0 sn0 Q tyt typs GS FX rec) (hγ : aGm h0 tyt typs GS FX ρ ls st fr mem env fx gh ne g lsc stc frc) (hd : dd ≤ d) (hc : cC cd y pc (.idiv, nx, tg, r1, r2)) (h : a_div rec nx y dd ls st fr mem env fx gh ne 0 (-2147483648) 2147483647 = true) : cTF G h0 n0 cn0 sn0 Q frc y d pc lsc stc g := by
  obtain ⟨b, a, r, vb, va, rc, rfl, rfl, tb, ta, hb, ha, hs, k⟩ := a_two h hγ.gs
  obtain ⟨x, rfl, hx, hxe⟩ := a_int ha ta
  obtain ⟨z, rfl, hz, hze⟩ := a_int hb tb
  have hcI := cI_of (i32 x / i32 z)
  obtain ⟨z0, hres⟩ := a_divv (v0 := (0, (i32 x / i32 z).toInt)) hγ.1 hxe hze ⟨hcI.1, by have := hcI.2; omega⟩ (by have := hx.2; omega) (fun b1 b2 => by
    rw [i32_div hx hz, i32_int]
    rw [Int.tdiv_eq_ediv_of_nonneg b1]
    have e1 : 0 ≤ x / z := Int.ediv_nonneg b1 (by omega)
    have e2 : x / z ≤ x := Int.ediv_le_self z b1
    unfold cI at *
    omega) (avR_mk0 hcI) k
  exact cT_dv (F := fun x z => x / z) hG hc (fun _ _ _ _ => rfl) (fun _ _ _ => rfl) (fun a b => nI_xnu _) hz z0 (a_nr hF hrec hγ hd hs hres)
theorem a_divL_ok (hG : cW sv cd mi df el eb G) (hF : aFXm FX) (hrec : aSnd G h0 n0 cn0 sn0 Q tyt typs GS FX rec) (hγ : aGm h0 tyt typs GS FX ρ ls st fr mem env fx gh ne g lsc stc frc) (hd : dd ≤ d) (hc : cC cd y pc (.ldiv, nx, tg, r1, r2)) (h : a_div rec nx y dd ls st fr mem env fx gh ne 2 (-9223372036854775808) 9223372036854775807 = true) : cTF G h0 n0 cn0 sn0 Q frc y d pc lsc stc g := by
  obtain ⟨b, a, r, vb, va, rc, rfl, rfl, tb, ta, hb, ha, hs, k⟩ := a_two h hγ.gs
  obtain ⟨x, rfl, hx, hxe⟩ := a_lngv ha ta
  obtain ⟨z, rfl, hz, hze⟩ := a_lngv hb tb
  have hcI := cL_of (i64 x / i64 z)
  obtain ⟨z0, hres⟩ := a_divv (v0 := (2, (i64 x / i64 z).toInt)) hγ.1 hxe hze ⟨hcI.1, by have := hcI.2; omega⟩ (by have := hx.2; omega) (fun b1 b2 => by
    rw [i64_div hx hz, i64_int]
    rw [Int.tdiv_eq_ediv_of_nonneg b1]
    have e1 : 0 ≤ x / z := Int.ediv_nonneg b1 (by omega)
    have e2 : x / z ≤ x := Int.ediv_le_self z b1
    unfold cL at *
    omega) (avR_mk2 hcI) k
  exact cT_dl (F := fun x z => x / z) hG hc (fun _ _ _ _ => rfl) (fun _ _ _ => rfl) (fun a b => lN_xnl _) hz z0 (a_nr hF hrec hγ hd hs hres)
end Snd2
