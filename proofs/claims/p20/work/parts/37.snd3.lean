/-! The step is right: rests, bits, stack, branches -/
section Snd3
variable {sv : Nat → Int32} {cd : xcd} {mi : xmi} {df : xdf} {el : Nat → Nat} {eb : Nat → List Nat} {G : xG} {h0 : xheap} {n0 : Nat} {cn0 sn0 : Nat → Nat} {Q : cg → Option cv → Prop}
variable {tyt : Lean.RArray (Nat × Nat)} {typs : Lean.RArray (Nat × aty)} {GS : gho → (Nat → Int) → cg → Prop} {FX : (Nat → Int) → Nat → cg → Prop}
variable {rec : aF} {y d dd pc nx tg r1 r2 : Nat} {ins : Instr} {ls : List (Nat × av)} {st : List av} {fr : List afr} {mem : List am} {env : aenv} {fx : List ae} {gh : List gho} {ne : Nat} {ρ : Nat → Int} {g : cg} {lsc : List (Nat × cv)} {stc : List cv} {frc : List cfr}
theorem aany_ok2 {tag : Nat} {lo hi : Int} {env : aenv} {fx : List ae} {mem : List am} {gh : List gho} {ne : Nat} {ρ : Nat → Int} {g : cg} {k : av → aenv → Nat → Bool} {v0 : cv} {z : Int} (hC : aC ne ρ (coR h0 tyt GS env fx mem gh g)) (hz : lo ≤ z ∧ z ≤ hi) (hv : ∀ (τ : Nat → Int) (x : ae), ev τ x = z → avR tyt τ (tag, 0, x) v0)
    (h : aany tag lo hi env ne k = true) : ∃ v env' ne' ρ', k v env' ne' = true ∧ ne ≤ ne' ∧ aag ne ρ ρ' ∧ aC ne' ρ' (coR h0 tyt GS env' fx mem gh g) ∧ aC ne' ρ' (fun τ => avR tyt τ v v0) ∧ aC ne' ρ' (fun τ => ev τ v.2.2 = z) := by
  unfold aany at h
  cases hf : zeq lo hi with
  | true =>
    rw [hf] at h
    simp only [cond_true] at h
    rw [zfrc_eq] at h
    have e := zeq_iff.mp hf
    have e2 : ∀ τ : Nat → Int, ev τ ((lo, []) : ae) = z := fun τ => by rw [show ev τ ((lo, []) : ae) = lo from ecst_ev τ lo]; omega
    exact ⟨_, env, ne, ρ, h, Nat.le_refl _, aag.rf ne ρ, hC, fun τ hτ => hv τ _ (e2 τ), fun τ hτ => e2 τ⟩
  | false =>
    rw [hf] at h
    simp only [cond_false] at h
    rw [zfrc_eq, zfrc_eq, afrs_eq] at h
    refine ⟨_, _, _, aup ρ ne z, h, by omega, aup_ag ρ ne z, fun τ hτ => ?_, fun τ hτ => hv τ _ (afrs_ev τ hτ), fun τ hτ => afrs_ev τ hτ⟩
    exact coR_env (hC τ (aag.tr (by omega) (aup_ag ρ ne z) hτ)) (afrs_ok (hC.imp (fun _ x => x.1)) hz.1 hz.2 τ hτ) (hC τ (aag.tr (by omega) (aup_ag ρ ne z) hτ)).2.1
theorem a_remz {a b : av} {z : Int} (hC : aC ne ρ (coR h0 tyt GS env fx mem gh g)) (hze : aC ne ρ (fun τ => ev τ b.2.2 = z)) {K : Int × Int → Int × Int → Bool}
    (k : (match ebd env fx a.2.2 with
      | none => false
      | some ia => match ebd env fx b.2.2 with
        | none => false
        | some ib => cond (zlt 0 ib.1 || zlt ib.2 0) (K ia ib) false) = true) : z ≠ 0 := by
  cases h1 : ebd env fx a.2.2 with
  | none => rw [h1] at k; cases k
  | some ia =>
    rw [h1] at k
    dsimp only at k
    cases h2 : ebd env fx b.2.2 with
    | none => rw [h2] at k; cases k
    | some ib =>
      rw [h2] at k
      obtain ⟨k0, k⟩ := xcnb k
      have i2 := ebd_ok hC.self.1 hC.self.2.1 h2
      rw [hze.self] at i2
      rcases xor2 k0 with q | q
      · have := zlt_iff.mp q; omega
      · have := zlt_iff.mp q; omega
/-- a rest, with what is known of it -/
theorem a_remv (hF : aFXm FX) (hrec : aSnd G h0 n0 cn0 sn0 Q tyt typs GS FX rec) (hγ : aGm h0 tyt typs GS FX ρ ls st fr mem env fx gh ne g lsc stc frc) (hd : dd ≤ d) {tag : Nat} {fa : Bool} {a b : av} {r : List av} {rc : List cv} {x z : Int} {v0 : cv} (hs : aC ne ρ (fun τ => stR tyt τ r rc)) (hxe : aC ne ρ (fun τ => ev τ a.2.2 = x)) (hze : aC ne ρ (fun τ => ev τ b.2.2 = z)) (hz0 : z ≠ 0) (hv : ∀ (τ : Nat → Int) (e : ae), ev τ e = x.tmod z → avR tyt τ (tag, 0, e) v0)
    (k : (match ebd env fx a.2.2 with
      | none => false
      | some ia => match ebd env fx b.2.2 with
        | none => false
        | some ib => cond (zlt 0 ib.1 || zlt ib.2 0)
            (zfrc (Int.add (cond (zlt 0 ib.1) ib.2 (Int.neg ib.1)) (-1)) (fun m => aany tag (cond (zle 0 ia.1) 0 (zmx (Int.neg m) ia.1)) (cond (zle ia.2 0) 0 (zmn m ia.2)) env ne (fun v env ne =>
              cond fa (efrc (eadc (eadd v.2.2 b.2.2 (cond (zlt 0 ib.1) (-1) 1)) 1) (fun f1 => efrc (eadc (eadd (escl v.2.2 (-1)) b.2.2 (cond (zlt 0 ib.1) (-1) 1)) 1) (fun f2 => rec y dd nx ls (v :: r) fr mem env (f1 :: f2 :: fx) gh ne)))
                (rec y dd nx ls (v :: r) fr mem env fx gh ne)))) false) = true) :
    cTF G h0 n0 cn0 sn0 Q frc y d nx lsc (v0 :: rc) g := by
  have hC := hγ.1
  cases h1 : ebd env fx a.2.2 with
  | none => rw [h1] at k; cases k
  | some ia =>
    rw [h1] at k
    dsimp only at k
    cases h2 : ebd env fx b.2.2 with
    | none => rw [h2] at k; cases k
    | some ib =>
      rw [h2] at k
      dsimp only at k
      obtain ⟨k0, k⟩ := xcnb k
      rw [zfrc_eq] at k
      have i1 := ebd_ok hC.self.1 hC.self.2.1 h1
      have i2 := ebd_ok hC.self.1 hC.self.2.1 h2
      rw [hxe.self] at i1
      rw [hze.self] at i2
      obtain ⟨t1, t2, t3, t4⟩ := tmod_in x hz0
      have hm : ∀ m, m = Int.add (cond (zlt 0 ib.1) ib.2 (Int.neg ib.1)) (-1) → -m ≤ x.tmod z ∧ x.tmod z ≤ m := by
        intro m em
        cases hb : zlt 0 ib.1 with
        | true =>
          have hb := zlt_iff.mp hb
          rw [zlt_iff.mpr hb] at em
          have em : m = ib.2 + -1 := em
          have := t3 (by omega)
          omega
        | false =>
          rw [hb] at em k0
          have hb2 := zlt_iff.mp (show zlt ib.2 0 = true from k0)
          have em : m = -ib.1 + -1 := em
          have := t4 (by omega)
          omega
      have hlo : (cond (zle 0 ia.1) 0 (zmx (Int.neg (Int.add (cond (zlt 0 ib.1) ib.2 (Int.neg ib.1)) (-1))) ia.1)) ≤ x.tmod z := by
        cases hq : zle 0 ia.1 with
        | true => have := zle_iff.mp hq; exact (t1 (by omega)).1
        | false =>
          refine zmx_of ?_ ?_
          · exact (hm _ rfl).1
          · by_cases hx : 0 ≤ x
            · have := zle_f hq; have := t1 hx; omega
            · have := t2 (by omega); omega
      have hhi : x.tmod z ≤ (cond (zle ia.2 0) 0 (zmn (Int.add (cond (zlt 0 ib.1) ib.2 (Int.neg ib.1)) (-1)) ia.2)) := by
        cases hq : zle ia.2 0 with
        | true => have := zle_iff.mp hq; exact (t2 (by omega)).2
        | false =>
          refine zmn_of ?_ ?_
          · exact (hm _ rfl).2
          · by_cases hx : 0 ≤ x
            · have := t1 hx; omega
            · have := zle_f hq; have := t2 (by omega); omega
      obtain ⟨v, env', ne', ρ', q1, q2, q3, q4, q5, q6⟩ := aany_ok2 hC ⟨hlo, hhi⟩ hv k
      cases fa with
      | false => exact a_nx hF hrec hγ.2.2.1 hγ.2.2.2 hd q1 q2 q3 q4 (hγ.gl.mono q2 q3) (fun τ hτ => ⟨q5 τ hτ, hs.mono q2 q3 τ hτ⟩) (hγ.2.1.imp (fun _ x => x.2.2))
      | true =>
        simp only [cond_true] at q1
        rw [efrc_eq, efrc_eq] at q1
        refine a_nx hF hrec hγ.2.2.1 hγ.2.2.2 hd q1 q2 q3 (fun τ hτ => ?_) (hγ.gl.mono q2 q3) (fun τ hτ => ⟨q5 τ hτ, hs.mono q2 q3 τ hτ⟩) (hγ.2.1.imp (fun _ x => x.2.2))
        have hq := q4 τ hτ
        have e1 := q6 τ hτ
        have e2 := hze.mono q2 q3 τ hτ
        refine ⟨hq.1, fun f hf => ?_, hq.2.2.1, hq.2.2.2⟩
        have hbd : x.tmod z + (cond (zlt 0 ib.1) (-1) 1) * z + 1 ≤ 0 ∧ -(x.tmod z) + (cond (zlt 0 ib.1) (-1) 1) * z + 1 ≤ 0 := by
          cases hb : zlt 0 ib.1 with
          | true =>
            have hb := zlt_iff.mp hb
            have := t3 (by omega)
            show x.tmod z + (-1) * z + 1 ≤ 0 ∧ -(x.tmod z) + (-1) * z + 1 ≤ 0
            omega
          | false =>
            rw [hb] at k0
            have hb2 := zlt_iff.mp (show zlt ib.2 0 = true from k0)
            have := t4 (by omega)
            show x.tmod z + 1 * z + 1 ≤ 0 ∧ -(x.tmod z) + 1 * z + 1 ≤ 0
            omega
        rcases List.mem_cons.mp hf with e | hf
        · rw [e, eadc_ev, eadd_ev, e1, e2]
          exact hbd.1
        · rcases List.mem_cons.mp hf with e | hf
          · rw [e, eadc_ev, eadd_ev, escl_ev, e1, e2]
            have := hbd.2
            omega
          · exact hq.2.1 f hf
theorem a_remI_ok (hG : cW sv cd mi df el eb G) (hF : aFXm FX) (hrec : aSnd G h0 n0 cn0 sn0 Q tyt typs GS FX rec) (hγ : aGm h0 tyt typs GS FX ρ ls st fr mem env fx gh ne g lsc stc frc) (hd : dd ≤ d) {fa : Bool} (hc : cC cd y pc (.irem, nx, tg, r1, r2)) (h : a_rem rec nx y dd ls st fr mem env fx gh ne 0 fa = true) : cTF G h0 n0 cn0 sn0 Q frc y d pc lsc stc g := by
  obtain ⟨b, a, r, vb, va, rc, rfl, rfl, tb, ta, hb, ha, hs, k⟩ := a_two h hγ.gs
  obtain ⟨x, rfl, hx, hxe⟩ := a_int ha ta
  obtain ⟨z, rfl, hz, hze⟩ := a_int hb tb
  have z0 := a_remz hγ.1 hze k
  have hin : cI (x.tmod z) := by rw [← i32_rem hx hz z0]; exact cI_of _
  refine cT_dv (F := fun x z => x - x / z * z) hG hc (fun _ _ _ _ => rfl) (fun _ _ _ => rfl) (fun a b => nI_xnu _) hz z0 ?_
  rw [i32_rem hx hz z0]
  exact a_remv hF hrec hγ hd hs hxe hze z0 (avR_mk0 hin) k
theorem a_remL_ok (hG : cW sv cd mi df el eb G) (hF : aFXm FX) (hrec : aSnd G h0 n0 cn0 sn0 Q tyt typs GS FX rec) (hγ : aGm h0 tyt typs GS FX ρ ls st fr mem env fx gh ne g lsc stc frc) (hd : dd ≤ d) {fa : Bool} (hc : cC cd y pc (.lrem, nx, tg, r1, r2)) (h : a_rem rec nx y dd ls st fr mem env fx gh ne 2 fa = true) : cTF G h0 n0 cn0 sn0 Q frc y d pc lsc stc g := by
  obtain ⟨b, a, r, vb, va, rc, rfl, rfl, tb, ta, hb, ha, hs, k⟩ := a_two h hγ.gs
  obtain ⟨x, rfl, hx, hxe⟩ := a_lngv ha ta
  obtain ⟨z, rfl, hz, hze⟩ := a_lngv hb tb
  have z0 := a_remz hγ.1 hze k
  have hin : cL (x.tmod z) := by rw [← i64_rem hx hz z0]; exact cL_of _
  refine cT_dl (F := fun x z => x - x / z * z) hG hc (fun _ _ _ _ => rfl) (fun _ _ _ => rfl) (fun a b => lN_xnl _) hz z0 ?_
  rw [i64_rem hx hz z0]
  exact a_remv hF hrec hγ hd hs hxe hze z0 (avR_mk2 hin) k
/-- bits -/
theorem a_bit_ok (hG : cW sv cd mi df el eb G) (hF : aFXm FX) (hrec : aSnd G h0 n0 cn0 sn0 Q tyt typs GS FX rec) (hc : cC cd y pc (ins, nx, tg, r1, r2)) (hγ : aGm h0 tyt typs GS FX ρ ls st fr mem env fx gh ne g lsc stc frc) (hd : dd ≤ d) {f : Nat → Nat → Nat} {F : Int32 → Int32 → Int32} {bd : Int × Int → Int × Int → Int × Int} {fa : Bool} (he : ∀ (rec : xF) (lx : List (Nat × xv)) (sx : List xv) (h : xheap), xex mi df el eb rec ins nx tg r1 r2 y d pc lx sx [] h n0 (cn0 y) (sn0 y) = x_bi rec nx y d lx sx [] h n0 (cn0 y) (sn0 y) f) (hdn : ∀ (lf : dlf) (sx : List cv) (g : cg), dnx h0 sv mi el eb ins nx tg r1 r2 pc lf sx g = d_bi F nx lf sx g) (hFf : ∀ a b, nI (f a b) = F (nI a) (nI b)) (hbd : ∀ (x z : Int) (ia ib : Int × Int), cI x → cI z → ia.1 ≤ x → x ≤ ia.2 → ib.1 ≤ z → z ≤ ib.2 → (bd ia ib).1 ≤ (F (i32 x) (i32 z)).toInt ∧ (F (i32 x) (i32 z)).toInt ≤ (bd ia ib).2) (hfa : fa = true → ∀ x z : Int, cI x → cI z → 0 ≤ z → (F (i32 x) (i32 z)).toInt ≤ z)
    (h : a_bit rec nx y dd ls st fr mem env fx gh ne F bd fa = true) : cTF G h0 n0 cn0 sn0 Q frc y d pc lsc stc g := by
  obtain ⟨b, a, r, vb, va, rc, rfl, rfl, tb, ta, hb, ha, hs, k⟩ := a_two h hγ.gs
  obtain ⟨x, rfl, hx, hxe⟩ := a_int ha ta
  obtain ⟨z, rfl, hz, hze⟩ := a_int hb tb
  have hcI := cI_of (F (i32 x) (i32 z))
  refine cT_bi hG hc he hdn hFf ?_
  split at k
  · rename_i na nb
    rw [zfrc_eq] at k
    have e1 : a.2.2.1 = x := by
      have := hxe.self
      have e2 : ev ρ a.2.2 = a.2.2.1 := by unfold ev; rw [na]; show _ + 0 = _; omega
      omega
    have e2 : b.2.2.1 = z := by
      have := hze.self
      have e2 : ev ρ b.2.2 = b.2.2.1 := by unfold ev; rw [nb]; show _ + 0 = _; omega
      omega
    rw [e1, e2] at k
    exact a_n0 hF hrec hγ hd k hγ.gl (fun τ hτ => ⟨avR_mk0 hcI τ _ (evc τ _), hs τ hτ⟩)
  · have hC := hγ.1
    cases h1 : ebd env fx a.2.2 with
    | none => rw [h1] at k; cases k
    | some ia =>
      rw [h1] at k
      dsimp only at k
      cases h2 : ebd env fx b.2.2 with
      | none => rw [h2] at k; cases k
      | some ib =>
        rw [h2] at k
        dsimp only at k
        rw [zfrc_eq, zfrc_eq] at k
        have i1 := ebd_ok hC.self.1 hC.self.2.1 h1
        have i2 := ebd_ok hC.self.1 hC.self.2.1 h2
        rw [hxe.self] at i1
        rw [hze.self] at i2
        obtain ⟨v, env', ne', ρ', q1, q2, q3, q4, q5, q6⟩ := aany_ok2 hC (hbd x z ia ib hx hz i1.1 i1.2 i2.1 i2.2) (avR_mk0 hcI) k
        cases hb : (fa && zle 0 ib.1) with
        | false =>
          rw [hb] at q1
          exact a_nx hF hrec hγ.2.2.1 hγ.2.2.2 hd q1 q2 q3 q4 (hγ.gl.mono q2 q3) (fun τ hτ => ⟨q5 τ hτ, hs.mono q2 q3 τ hτ⟩) (hγ.2.1.imp (fun _ x => x.2.2))
        | true =>
          rw [hb] at q1
          simp only [cond_true] at q1
          rw [efrc_eq] at q1
          obtain ⟨b1, b2⟩ := xand hb
          have b2 := zle_iff.mp b2
          refine a_nx hF hrec hγ.2.2.1 hγ.2.2.2 hd q1 q2 q3 (fun τ hτ => ?_) (hγ.gl.mono q2 q3) (fun τ hτ => ⟨q5 τ hτ, hs.mono q2 q3 τ hτ⟩) (hγ.2.1.imp (fun _ x => x.2.2))
          have hq := q4 τ hτ
          refine ⟨hq.1, fun f hf => ?_, hq.2.2.1, hq.2.2.2⟩
          rcases List.mem_cons.mp hf with e | hf
          · rw [e, eadd_ev, q6 τ hτ, hze.mono q2 q3 τ hτ]
            have := hfa b1 x z hx hz (by omega)
            omega
          · exact hq.2.1 f hf
theorem bdand_ok (x z : Int) (ia ib : Int × Int) (hx : cI x) (hz : cI z) (a1 : ia.1 ≤ x) (a2 : x ≤ ia.2) (b1 : ib.1 ≤ z) (b2 : z ≤ ib.2) : (bdand ia ib).1 ≤ (i32 x &&& i32 z).toInt ∧ (i32 x &&& i32 z).toInt ≤ (bdand ia ib).2 := by
  have full := cI_of (i32 x &&& i32 z)
  unfold bdand
  cases h1 : zle 0 ib.1 with
  | true =>
    have h1 := zle_iff.mp h1
    have r := iand_r (i32 x) hz (by omega)
    cases h2 : zle 0 ia.1 with
    | true =>
      have h2 := zle_iff.mp h2
      have l := iand_l (i32 z) hx (by omega)
      exact ⟨r.1, zmn_of (by omega) (by omega)⟩
    | false => exact ⟨r.1, by show _ ≤ ib.2; omega⟩
  | false =>
    cases h2 : zle 0 ia.1 with
    | true =>
      have h2 := zle_iff.mp h2
      have l := iand_l (i32 z) hx (by omega)
      exact ⟨l.1, by show _ ≤ ia.2; omega⟩
    | false =>
      refine ⟨full.1, ?_⟩
      have := full.2
      show _ ≤ (2147483647 : Int)
      omega
theorem bdor_ok (x z : Int) (ia ib : Int × Int) (hx : cI x) (hz : cI z) (a1 : ia.1 ≤ x) (a2 : x ≤ ia.2) (b1 : ib.1 ≤ z) (b2 : z ≤ ib.2) : (bdor ia ib).1 ≤ (i32 x ||| i32 z).toInt ∧ (i32 x ||| i32 z).toInt ≤ (bdor ia ib).2 := by
  have full := cI_of (i32 x ||| i32 z)
  unfold bdor
  cases h : (zle 0 ia.1 && zle 0 ib.1) with
  | false =>
    refine ⟨full.1, ?_⟩
    have := full.2
    show _ ≤ (2147483647 : Int)
    omega
  | true =>
    obtain ⟨h1, h2⟩ := xand h
    have h1 := zle_iff.mp h1
    have h2 := zle_iff.mp h2
    have m1 := zmx_l ia.2 ib.2
    have m2 := zmx_r ia.2 ib.2
    have hlt : (zmx ia.2 ib.2).toNat < 2 ^ (Nat.log2 (zmx ia.2 ib.2).toNat + 1) := Nat.lt_log2_self
    by_cases hk : Nat.log2 (zmx ia.2 ib.2).toNat + 1 ≤ 31
    · have key := ior_in hx hz (by omega) (by omega) (k := Nat.log2 (zmx ia.2 ib.2).toNat + 1) (by omega) (by omega) hk
      refine ⟨key.1, ?_⟩
      show _ ≤ ((2 ^ (Nat.log2 (zmx ia.2 ib.2).toNat + 1) - 1 : Nat) : Int)
      have e : ((2 ^ (Nat.log2 (zmx ia.2 ib.2).toNat + 1) : Nat) : Int) = (2 ^ (Nat.log2 (zmx ia.2 ib.2).toNat + 1) : Int) := by rw [Int.natCast_pow]; rfl
      have k2 := key.2
      rw [← e] at k2
      omega
    · have key := ior_in hx hz (by omega) (by omega) (k := 31) (by have := hx.2; omega) (by have := hz.2; omega) (Nat.le_refl _)
      refine ⟨key.1, ?_⟩
      show _ ≤ ((2 ^ (Nat.log2 (zmx ia.2 ib.2).toNat + 1) - 1 : Nat) : Int)
      have e : 2 ^ 31 ≤ 2 ^ (Nat.log2 (zmx ia.2 ib.2).toNat + 1) := Nat.pow_le_pow_right (by decide) (by omega)
      have := full.2
      omega
theorem bdshl_ok (x z : Int) (ia ib : Int × Int) (hx : cI x) (hz : cI z) (a1 : ia.1 ≤ x) (a2 : x ≤ ia.2) (b1 : ib.1 ≤ z) (b2 : z ≤ ib.2) : (bdshl ia ib).1 ≤ (i32 x <<< (i32 z &&& 31)).toInt ∧ (i32 x <<< (i32 z &&& 31)).toInt ≤ (bdshl ia ib).2 := by
  have full := cI_of (i32 x <<< (i32 z &&& 31))
  unfold bdshl
  cases h : (zle 0 ia.1 && (zle 0 ib.1 && (zle ib.2 30 && zle (Int.mul ia.2 ((2 ^ ib.2.toNat : Nat) : Int)) 2147483647))) with
  | false =>
    refine ⟨full.1, ?_⟩
    have := full.2
    show _ ≤ (2147483647 : Int)
    omega
  | true =>
    obtain ⟨h1, h⟩ := xand h
    obtain ⟨h2, h⟩ := xand h
    obtain ⟨h3, h4⟩ := xand h
    have h1 := zle_iff.mp h1
    have h2 := zle_iff.mp h2
    have h3 := zle_iff.mp h3
    have h4 : ia.2 * ((2 ^ ib.2.toNat : Nat) : Int) ≤ 2147483647 := zle_iff.mp h4
    have p1 : 2 ^ ib.1.toNat ≤ 2 ^ z.toNat := Nat.pow_le_pow_right (by decide) (by omega)
    have p2 : 2 ^ z.toNat ≤ 2 ^ ib.2.toNat := Nat.pow_le_pow_right (by decide) (by omega)
    have e : ((2 ^ z.toNat : Nat) : Int) = (2 ^ z.toNat : Int) := by rw [Int.natCast_pow]; rfl
    have q1 : x * ((2 ^ z.toNat : Nat) : Int) ≤ ia.2 * ((2 ^ ib.2.toNat : Nat) : Int) := Int.mul_le_mul a2 (Int.ofNat_le.mpr p2) (Int.natCast_nonneg _) (by omega)
    have q2 : ia.1 * ((2 ^ ib.1.toNat : Nat) : Int) ≤ x * ((2 ^ z.toNat : Nat) : Int) := Int.mul_le_mul a1 (Int.ofNat_le.mpr p1) (Int.natCast_nonneg _) (by omega)
    have key := ishl_in (x := x) (s := z) (by omega) (by omega) (by omega) (by rw [← e]; omega)
    rw [key, ← e]
    exact ⟨q2, q1⟩
theorem bdshr_ok (x z : Int) (ia ib : Int × Int) (hx : cI x) (_ : cI z) (a1 : ia.1 ≤ x) (a2 : x ≤ ia.2) (_ : ib.1 ≤ z) (_ : z ≤ ib.2) : (bdshr ia ib).1 ≤ (i32 x >>> (i32 z &&& 31)).toInt ∧ (i32 x >>> (i32 z &&& 31)).toInt ≤ (bdshr ia ib).2 := by
  obtain ⟨k1, k2, k3⟩ := ishr_in (i32 x) (i32 z &&& 31)
  rw [i32_int hx] at k1 k2 k3
  unfold bdshr
  cases h : zle 0 ia.1 with
  | true =>
    have h := zle_iff.mp h
    have := k1 (by omega)
    refine ⟨this.1, ?_⟩
    show _ ≤ ia.2
    omega
  | false =>
    have h := zle_f h
    have m1 := zmx_l ia.2 (-1)
    have m2 := zmx_r ia.2 (-1)
    show ia.1 ≤ _ ∧ _ ≤ zmx ia.2 (-1)
    by_cases h0 : 0 ≤ x
    · have := k1 h0; omega
    · have := k2 (by omega); have := k3 (by omega); omega
theorem bdful_ok (X : Int32) (ia ib : Int × Int) : (bdful ia ib).1 ≤ X.toInt ∧ X.toInt ≤ (bdful ia ib).2 := by
  have full := cI_of X
  refine ⟨full.1, ?_⟩
  have := full.2
  show _ ≤ (2147483647 : Int)
  omega
end Snd3
