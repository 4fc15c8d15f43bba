/-! The step is right: cells -/
section Snd5
variable {sv : Nat → Int32} {cd : xcd} {mi : xmi} {df : xdf} {el ec : Nat → Nat} {eb : Nat → List Nat} {G : xG} {h0 : xheap} {n0 : Nat} {cn0 sn0 : Nat → Nat} {Q : cg → Option cv → Prop}
variable {tyt : Lean.RArray (Nat × Nat)} {typs : Lean.RArray (Nat × aty)} {GS : gho → (Nat → Int) → cg → Prop} {FX : (Nat → Int) → Nat → cg → Prop} {wc : Nat → Nat → Prop}
variable {HK : aenv → List ae → List am → List gho → Nat → ae → ae → Int × Int → Int × Int} {HS : aenv → List ae → List am → List gho → Nat → ae → ae → av → List gho} {WOK : aenv → List ae → Nat → ae → ae → Bool} {WOA : aenv → List ae → Nat → ae → Bool} {HA : aenv → List ae → List am → List gho → Nat → ae → Nat → ae → ae → ae → ae → List gho}
variable {rec : aF} {y d dd pc nx tg r1 r2 : Nat} {ins : Instr} {ls : List (Nat × av)} {st : List av} {fr : List afr} {mem : List am} {env : aenv} {fx : List ae} {gh : List gho} {ne : Nat} {ρ : Nat → Int} {g : cg} {lsc : List (Nat × cv)} {stc : List cv} {frc : List cfr}
theorem aar_ok2 {tag : Nat} {e : ae} {lo hi : Int} {env : aenv} {fx : List ae} {mem : List am} {gh : List gho} {ne : Nat} {ρ : Nat → Int} {g : cg} {k : av → aenv → Nat → Bool} {v0 : cv} {z : Int} (hC : aC ne ρ (coR h0 tyt GS env fx mem gh g)) (hz : lo ≤ z ∧ z ≤ hi) (he : aC ne ρ (fun τ => lo ≤ ev τ e → ev τ e ≤ hi → ev τ e = z)) (hv : ∀ (τ : Nat → Int) (x : ae), ev τ x = z → avR tyt τ (tag, 0, x) v0)
    (h : aar tag e lo hi env fx ne k = true) : ∃ v env' ne' ρ', k v env' ne' = true ∧ ne ≤ ne' ∧ aag ne ρ ρ' ∧ aC ne' ρ' (coR h0 tyt GS env' fx mem gh g) ∧ aC ne' ρ' (fun τ => avR tyt τ v v0) ∧ v.1 = tag := by
  unfold aar at h
  cases hf : efit env fx e lo hi with
  | true =>
    rw [hf] at h
    refine ⟨_, env, ne, ρ, h, Nat.le_refl _, aag.rf ne ρ, hC, fun τ hτ => ?_, rfl⟩
    obtain ⟨b1, b2⟩ := efit_ok (hC τ hτ).1 (hC τ hτ).2.1 hf
    exact hv τ e (he τ hτ b1 b2)
  | false =>
    rw [hf] at h
    simp only [cond_false] at h
    rw [afrs_eq] at h
    refine ⟨_, _, _, aup ρ ne z, h, by omega, aup_ag ρ ne z, fun τ hτ => ?_, fun τ hτ => hv τ _ (afrs_ev τ hτ), rfl⟩
    exact coR_env (hC τ (aag.tr (by omega) (aup_ag ρ ne z) hτ)) (afrs_ok (hC.imp (fun _ x => x.1)) hz.1 hz.2 τ hτ) (hC τ (aag.tr (by omega) (aup_ag ρ ne z) hτ)).2.1
theorem a_refv {a : av} {v : cv} (h : aC ne ρ (fun τ => avR tyt τ a v)) (ht : a.1 = 4) : ∃ k : Nat, v = (4, (k : Int)) ∧ xg tyt k = some a.2.1 ∧ aC ne ρ (fun τ => ev τ a.2.2 = (k : Int)) := by
  obtain ⟨k, h1, h2, h3⟩ := avR_ref h.self ht
  refine ⟨k, h1, h3, fun τ hτ => ?_⟩
  obtain ⟨k', g1, g2, g3⟩ := avR_ref (h τ hτ) ht
  have : (k : Int) = (k' : Int) := by
    have := h1.symm.trans g1
    exact congrArg Prod.snd this
  show ev τ a.2.2 = _
  omega
/-- a load, then the next -/
theorem a_ldn (hF : aFXm FX) (hrec : aSnd G h0 n0 cn0 sn0 Q tyt typs GS FX rec) (hW : aWd h0 tyt typs) (hHK : aHK h0 tyt GS HK) (hγ : aGm h0 tyt typs GS FX ρ ls st fr mem env fx gh ne g lsc stc frc) (hd : dd ≤ d) {t : Nat} {c0 i0 : ae} {kc j : Nat} {r : List av} {rc : List cv} (hs : aC ne ρ (fun τ => stR tyt τ r rc))
    (hp0 : aC ne ρ (fun τ => ev τ c0 = (kc : Int) ∧ ev τ i0 = (j : Int))) (ht : xg tyt kc = some t) {v0 : cv} (hcat : cat h0 g kc j v0) {q : xcell} (hq : xg h0 kc = some q) (hj : j < q.2.1)
    (h : aload h0 typs HK t c0 i0 mem env fx gh ne (fun v mem env ne => rec y dd nx ls (v :: r) fr mem env fx gh ne) = true) : cTF G h0 n0 cn0 sn0 Q frc y d nx lsc (v0 :: rc) g := by
  obtain ⟨v, mem', env', ne', ρ', h1, h2, h3, h4, h5⟩ := aload_ok hW hHK hγ.2.2.1 hγ.1 hp0 ht hcat hq hj h
  exact a_nx hF hrec hγ.2.2.1 hγ.2.2.2 hd h1 h2 h3 h4 (hγ.gl.mono h2 h3) (fun τ hτ => ⟨h5 τ hτ, hs.mono h2 h3 τ hτ⟩) (hγ.2.1.imp (fun _ x => x.2.2))
theorem a_get_ok (hG : cW sv cd mi df el eb G) (hF : aFXm FX) (hrec : aSnd G h0 n0 cn0 sn0 Q tyt typs GS FX rec) (hγ : aGm h0 tyt typs GS FX ρ ls st fr mem env fx gh ne g lsc stc frc) (hd : dd ≤ d) {i : Nat} (hW : aWd h0 tyt typs) (hHK : aHK h0 tyt GS HK) (hc : cC cd y pc (.getfield i, nx, tg, r1, r2)) (h : a_get h0 typs HK rec nx r1 r2 y dd ls st fr mem env fx gh ne = true) : cTF G h0 n0 cn0 sn0 Q frc y d pc lsc stc g := by
  unfold a_get at h
  match st, hγ, h with
  | [], _, h => cases h
  | w :: r, hγ, h =>
    dsimp only at h
    obtain ⟨v, rc, rfl, hv, hr⟩ := a_top hγ.gs
    split at h
    · rename_i hw4
      obtain ⟨k, rfl, hk1, hk2⟩ := a_refv hv hw4
      obtain ⟨q, T, w1, w2, w3, w4, w5, w6, w7, w8⟩ := hW k _ hk1
      rw [w2] at h
      obtain ⟨g1, g2⟩ := xcnb h
      obtain ⟨g3, g4⟩ := xand g1
      obtain ⟨g5, g6⟩ := xand g3
      have hj : r2 < q.2.1 := by rw [← w4]; exact xltb g4
      obtain ⟨ww, u, u1, u2, u3, u4⟩ := w8 r2 hj
      refine cT_get hG hc w1 (by rw [← w3]; exact xeqb g5) (xltb g6) u1 ?_
      exact a_ldn hF hrec hW hHK hγ hd hr (fun τ hτ => ⟨hk2 τ hτ, evc τ _⟩) hk1 ⟨q, ww, w1, u1, rfl⟩ w1 hj g2
    · rename_i hw6
      obtain ⟨g1, g2⟩ := xcnb h
      obtain ⟨g3, g4⟩ := xand g1
      have e := avR_ext hv.self hw6
      subst e
      refine cT_getE hG hc ((xor2 g3).imp xeqb xeqb) (xeqb g4) ?_
      refine a_n0 hF hrec hγ hd g2 hγ.gl (fun τ hτ => ⟨?_, hr τ hτ⟩)
      cases Nat.beq r2 0 with
      | true => exact rfl
      | false => exact avR_mk0 (by unfold cI; omega) τ _ (evc τ 0)
    · cases h
/-- a store, then the next -/
theorem a_stn (hF : aFXm FX) (hFS : ∀ (ρ : Nat → Int) (ne : Nat) (g : cg) (k j : Nat) (z : Int), FX ρ ne g → wc k j → FX ρ ne (cup g k j z)) (hrec : aSnd G h0 n0 cn0 sn0 Q tyt typs GS FX rec) (hW : aWd h0 tyt typs) (hHS : aHS h0 tyt GS HS) (hWO : aWOK tyt WOK wc) (hI : aInv tyt typs g) (hX : FX ρ ne g) (hC : aC ne ρ (coR h0 tyt GS env fx mem gh g)) (hl : aC ne ρ (fun τ => lsR tyt τ ls lsc)) (hf : aC ne ρ (fun τ => frR tyt τ fr frc)) (hd : dd ≤ d) {t : Nat} {c0 i0 : ae} {v : av} {kc j : Nat} {r : List av} {rc : List cv} (hs : aC ne ρ (fun τ => stR tyt τ r rc))
    (hp0 : aC ne ρ (fun τ => ev τ c0 = (kc : Int) ∧ ev τ i0 = (j : Int))) (ht : xg tyt kc = some t) {q : xcell} {w : xv} (hq : xg h0 kc = some q) (hj : j < q.2.1) (hw : xg q.2.2 j = some w) {v0 : cv} (hv : aC ne ρ (fun τ => avR tyt τ v v0)) (hvt : v.1 = w.1) (hwt : w.1 = 0 ∨ w.1 = 2)
    (h : astor typs HS WOK t c0 i0 v mem env fx gh ne (fun mem gh => rec y dd nx ls r fr mem env fx gh ne) = true) : cTF G h0 n0 cn0 sn0 Q frc y d nx lsc rc (cup g kc j v0.2) := by
  obtain ⟨mem', gh', h1, h2, h3, h4⟩ := astor_ok hW hHS hWO hI hC hp0 ht hq hj hw hv hvt hwt h
  exact a_nx hF hrec h3 (hFS _ _ _ _ _ _ hX h4) hd h1 (Nat.le_refl _) (aag.rf _ _) h2 hl hs hf
theorem aftf_ok {tc : Nat} {v : av} {v0 : cv} (hC : aC ne ρ (coR h0 tyt GS env fx mem gh g)) (hv : aC ne ρ (fun τ => avR tyt τ v v0)) (h : aftf env fx tc v = true) : xfit tc (cenc v0) = true ∧ (v.1 = 0 ∨ v.1 = 2) := by
  unfold aftf at h
  split at h
  · obtain ⟨z, rfl, -, -⟩ := a_int hv (xeqb h)
    exact ⟨rfl, Or.inl (xeqb h)⟩
  · obtain ⟨z, rfl, -, -⟩ := a_lngv hv (xeqb h)
    exact ⟨rfl, Or.inr (xeqb h)⟩
  · obtain ⟨h1, h2⟩ := xcnb h
    obtain ⟨z, rfl, hz, hze⟩ := a_int hv (xeqb h1)
    refine ⟨?_, Or.inl (xeqb h1)⟩
    have hb := efit_ok hC.self.1 hC.self.2.1 h2
    rw [hze.self] at hb
    show (Nat.beq 0 0 && Nat.ble (c32 z) 1) = true
    rw [c32_nat hb.1 (by omega), xle1 (by omega)]
    rfl
  · cases h
theorem a_put_ok (hG : cW sv cd mi df el eb G) (hF : aFXm FX) (hrec : aSnd G h0 n0 cn0 sn0 Q tyt typs GS FX rec) (hγ : aGm h0 tyt typs GS FX ρ ls st fr mem env fx gh ne g lsc stc frc) (hd : dd ≤ d) {i : Nat} (hFS : ∀ (ρ : Nat → Int) (ne : Nat) (g : cg) (k j : Nat) (z : Int), FX ρ ne g → wc k j → FX ρ ne (cup g k j z)) (hW : aWd h0 tyt typs) (hHS : aHS h0 tyt GS HS) (hWO : aWOK tyt WOK wc) (hc : cC cd y pc (.putfield i, nx, tg, r1, r2)) (h : a_put typs HS WOK rec nx tg r1 r2 y dd ls st fr mem env fx gh ne = true) : cTF G h0 n0 cn0 sn0 Q frc y d pc lsc stc g := by
  unfold a_put at h
  match st, hγ, h with
  | [], _, h => cases h
  | [_], _, h => cases h
  | v :: w :: r, hγ, h =>
    obtain ⟨g1, g2⟩ := xcnb h
    obtain ⟨g3, g4⟩ := xand g1
    obtain ⟨vc, rc1, rfl, hv, hs1⟩ := a_top hγ.gs
    obtain ⟨wc', rc, rfl, hw, hs⟩ := a_top hs1
    obtain ⟨k, rfl, hk1, hk2⟩ := a_refv hw (xeqb g3)
    obtain ⟨q, T, w1, w2, w3, w4, w5, w6, w7, w8⟩ := hW k _ hk1
    rw [w2] at g2
    obtain ⟨g5, g6⟩ := xcnb g2
    obtain ⟨g7, g8⟩ := xand g5
    obtain ⟨g9, g10⟩ := xand g7
    have hj : r2 < q.2.1 := by rw [← w4]; exact xltb g8
    obtain ⟨ww, u, u1, u2, u3, u4⟩ := w8 r2 hj
    have hT13 : Nat.blt T.1 13 = true := by rw [xeqb g9]; exact g10
    have hu : agt T.2.2.2.2 r2 = some u := by
      unfold apl at u2
      rw [hT13] at u2
      exact u2
    rw [hu] at g6
    obtain ⟨g11, g12⟩ := xcnb g6
    obtain ⟨f1, f2⟩ := aftf_ok hγ.1 hv g4
    have hvt : v.1 = ww.1 := by rw [u3]; exact (xeqb g11).symm
    have hwt : ww.1 = 0 ∨ ww.1 = 2 := by rw [← hvt]; exact f2
    have hvc : cenc vc = cpl ww vc.2 := by
      obtain ⟨wt, wn⟩ := ww
      have hvt : v.1 = wt := hvt
      rcases hwt with e | e
      · have e : wt = 0 := e
        subst e
        obtain ⟨z, rfl, -, -⟩ := a_int hv hvt
        rfl
      · have e : wt = 2 := e
        subst e
        obtain ⟨z, rfl, -, -⟩ := a_lngv hv hvt
        rfl
    refine cT_put hG hc w1 (by rw [← w3]; exact xeqb g9) hj u1 hvc f1 ?_
    exact a_stn hF hFS hrec hW hHS hWO hγ.2.2.1 hγ.2.2.2 hγ.1 hγ.gl (hγ.2.1.imp (fun _ x => x.2.2)) hd hs (fun τ hτ => ⟨hk2 τ hτ, evc τ _⟩) hk1 w1 hj u1 hv hvt hwt g12
theorem asl_ok : ∀ {gh : List gho} {s : Nat}, asl gh = some s → ∃ x ∈ gh, x.1 = 51 ∧ x.2.1 = s
  | [], _, h => by cases h
  | q :: l, s, h => by
    have h : cond (Nat.beq q.1 51) (some q.2.1) (asl l) = some s := h
    cases hb : Nat.beq q.1 51 with
    | true => rw [hb] at h; exact ⟨q, List.mem_cons_self, xeqb hb, Option.some.inj h⟩
    | false =>
      rw [hb] at h
      obtain ⟨x, h1, h2⟩ := asl_ok h
      exact ⟨x, List.mem_cons_of_mem _ h1, h2⟩
theorem asg_ok {env : aenv} {e : ae} : ∀ {gh : List gho} {s : Nat}, asg env e gh = some s → ∃ x ∈ gh, x.1 = 50 ∧ x.2.1 = s ∧ eeq env x.2.2.2 e = true
  | [], _, h => by cases h
  | q :: l, s, h => by
    have h : cond (Nat.beq q.1 50) (cond (eeq env q.2.2.2 e) (some q.2.1) (asg env e l)) (asg env e l) = some s := h
    have tl : asg env e l = some s → ∃ x ∈ q :: l, x.1 = 50 ∧ x.2.1 = s ∧ eeq env x.2.2.2 e = true := fun h => by
      obtain ⟨x, h1, h2⟩ := asg_ok h
      exact ⟨x, List.mem_cons_of_mem _ h1, h2⟩
    cases hb : Nat.beq q.1 50 with
    | false => rw [hb] at h; exact tl h
    | true =>
      rw [hb] at h
      cases hb2 : eeq env q.2.2.2 e with
      | false => rw [hb2] at h; exact tl h
      | true => rw [hb2] at h; exact ⟨q, List.mem_cons_self, xeqb hb, Option.some.inj h, hb2⟩
/-- what the script's ghosts say -/
def aGS0 (sv : Nat → Int32) (el ec : Nat → Nat) (GS : gho → (Nat → Int) → cg → Prop) : Prop := (∀ (x : gho) (ρ : Nat → Int) (g : cg), x.1 = 50 → (GS x ρ g ↔ ∃ n : Nat, ev ρ x.2.2.2 = (n : Int) ∧ (sv n).toInt = ρ x.2.1)) ∧ (∀ (x : gho) (ρ : Nat → Int) (g : cg), x.1 = 51 → (GS x ρ g ↔ ρ x.2.1 = (el 0 : Int))) ∧ el 0 < 2147483648 ∧ ∀ k : Nat, k = 2 ∨ k = 4 → ec k = el k
theorem a_len_ok (hG : cW sv cd mi df el eb G) (hF : aFXm FX) (hrec : aSnd G h0 n0 cn0 sn0 Q tyt typs GS FX rec) (hγ : aGm h0 tyt typs GS FX ρ ls st fr mem env fx gh ne g lsc stc frc) (hd : dd ≤ d) (hGS : aGS0 sv el ec GS) (hW : aWd h0 tyt typs) (hc : cC cd y pc (.arraylength, nx, tg, r1, r2)) (h : a_len typs ec rec nx y dd ls st fr mem env fx gh ne = true) : cTF G h0 n0 cn0 sn0 Q frc y d pc lsc stc g := by
  unfold a_len at h
  match st, hγ, h with
  | [], _, h => cases h
  | w :: r, hγ, h =>
    dsimp only at h
    obtain ⟨v, rc, rfl, hv, hr⟩ := a_top hγ.gs
    split at h
    · rename_i hw4
      obtain ⟨k, rfl, hk1, hk2⟩ := a_refv hv hw4
      obtain ⟨q, T, w1, w2, w3, w4, w5, w6, w7, w8⟩ := hW k _ hk1
      rw [w2] at h
      obtain ⟨g1, g2⟩ := xcnb h
      rw [xfrc_eq] at g2
      refine cT_len hG hc w1 (by rw [← w3]; exact xleb g1) w5 ?_
      rw [← w4]
      exact a_n0 hF hrec hγ hd g2 hγ.gl (fun τ hτ => ⟨avR_mk0 (by unfold cI; omega) τ _ (evc τ _), hr τ hτ⟩)
    · rename_i hw6
      have e := avR_ext hv.self hw6
      subst e
      cases hb : Nat.beq w.2.1 0 with
      | true =>
        rw [hb] at h
        simp only [cond_true] at h
        have e0 := xeqb hb
        rw [e0]
        cases ha : asl gh with
        | none => rw [ha] at h; cases h
        | some s =>
          rw [ha] at h
          obtain ⟨x, x1, x2, x3⟩ := asl_ok ha
          refine cT_lenE hG hc (Or.inl rfl) hGS.2.2.1 ?_
          refine a_n0 hF hrec hγ hd h hγ.gl (fun τ hτ => ⟨avR_mk0 (by have := hGS.2.2.1; unfold cI; omega) τ _ ?_, hr τ hτ⟩)
          have := (hGS.2.1 x τ g x2).mp ((hγ.1 τ hτ).2.2.2 x x1)
          rw [x3] at this
          rw [esym_ev]; exact this
      | false =>
        rw [hb] at h
        simp only [cond_false] at h
        obtain ⟨g1, g2⟩ := xcnb h
        obtain ⟨g3, g4⟩ := xand g1
        rw [xfrc_eq] at g2
        have hk24 : w.2.1 = 2 ∨ w.2.1 = 4 := (xor2 g3).imp xeqb xeqb
        have hec := hGS.2.2.2 _ hk24
        rw [hec] at g2 g4
        have hl := xltb g4
        refine cT_lenE hG hc (Or.inr hk24) hl ?_
        exact a_n0 hF hrec hγ hd g2 hγ.gl (fun τ hτ => ⟨avR_mk0 (by unfold cI; omega) τ _ (evc τ _), hr τ hτ⟩)
    · cases h
theorem a_ald_ok (hG : cW sv cd mi df el eb G) (hF : aFXm FX) (hrec : aSnd G h0 n0 cn0 sn0 Q tyt typs GS FX rec) (hc : cC cd y pc (ins, nx, tg, r1, r2)) (hγ : aGm h0 tyt typs GS FX ρ ls st fr mem env fx gh ne g lsc stc frc) (hd : dd ≤ d) {kd : Nat} (he : ∀ (rec : xF) (lx : List (Nat × xv)) (sx : List xv) (h : xheap), xex mi df el eb rec ins nx tg r1 r2 y d pc lx sx [] h n0 (cn0 y) (sn0 y) = x_ald el eb rec nx y d pc lx sx [] h n0 (cn0 y) (sn0 y) kd) (hdn : ∀ (lf : dlf) (sx : List cv) (g : cg), dnx h0 sv mi el eb ins nx tg r1 r2 pc lf sx g = d_ald h0 sv eb kd nx lf sx g) (hi13 : kd = 13 → ins = .iaload) (hi15 : kd = 15 → ins = .baload) (hGS : aGS0 sv el ec GS) (hW : aWd h0 tyt typs) (hHK : aHK h0 tyt GS HK) (h : a_ald h0 typs HK ec eb rec nx y dd ls st fr mem env fx gh ne kd = true) : cTF G h0 n0 cn0 sn0 Q frc y d pc lsc stc g := by
  unfold a_ald at h
  match st, hγ, h with
  | [], _, h => cases h
  | [_], _, h => cases h
  | i :: w :: r, hγ, h =>
    obtain ⟨g1, h⟩ := xcnb h
    obtain ⟨iv, rc1, rfl, hi, hs1⟩ := a_top hγ.gs
    obtain ⟨v, rc, rfl, hv, hr⟩ := a_top hs1
    obtain ⟨z, rfl, hz, hze⟩ := a_int hi (xeqb g1)
    split at h
    · rename_i hw4
      obtain ⟨k, rfl, hk1, hk2⟩ := a_refv hv hw4
      obtain ⟨q, T, w1, w2, w3, w4, w5, w6, w7, w8⟩ := hW k _ hk1
      rw [w2] at h
      obtain ⟨g2, g3⟩ := xcnb h
      obtain ⟨g4, g5⟩ := xand g2
      obtain ⟨g6, g7⟩ := xand g4
      have hb := efit_ok hγ.1.self.1 hγ.1.self.2.1 g5
      rw [hze.self] at hb
      have hb2 : z ≤ (T.2.1 : Int) + -1 := hb.2
      have ez : z = (z.toNat : Int) := by omega
      have hj : z.toNat < q.2.1 := by omega
      obtain ⟨ww, u, u1, u2, u3, u4⟩ := w8 z.toNat hj
      rw [ez]
      refine cT_ald hG hc he hdn w1 ?_ hj (by omega) u1 ?_
      · rw [← w3]
        exact (xor2 g6).imp xeqb (fun q => ⟨xeqb (xand q).1, xleb (xand q).2⟩)
      · exact a_ldn hF hrec hW hHK hγ hd hr (fun τ hτ => ⟨hk2 τ hτ, (hze τ hτ).trans ez⟩) hk1 ⟨q, ww, w1, u1, rfl⟩ w1 hj g3
    · rename_i hw6
      have e := avR_ext hv.self hw6
      subst e
      rw [efrc_eq] at h
      have hne : aC ne ρ (fun τ => ev τ (enor env i.2.2) = z) := fun τ hτ => (enor_ok (hγ.1 τ hτ).1 _).trans (hze τ hτ)
      generalize enor env i.2.2 = n at h hne
      cases hb : Nat.beq w.2.1 0 with
      | true =>
        rw [hb] at h
        simp only [cond_true] at h
        have e0 := xeqb hb
        rw [e0]
        obtain ⟨k13, h'⟩ := xcnb h
        clear h
        have h13 := xeqb k13
        clear k13
        subst h13
        have hins := hi13 rfl
        subst hins
        cases ha : asl gh with
        | none => rw [ha] at h'; cases h'
        | some s =>
          rw [ha] at h'
          obtain ⟨g2, h⟩ := xcnb h'
          obtain ⟨g3, g4⟩ := xand g2
          obtain ⟨x, x1, x2, x3⟩ := asl_ok ha
          have hL := (hGS.2.1 x ρ g x2).mp (hγ.1.self.2.2.2 x x1)
          rw [x3] at hL
          have b1 := elef_ok hγ.1.self.1 hγ.1.self.2.1 2 _ g3
          have b2 := elef_ok hγ.1.self.1 hγ.1.self.2.1 2 _ g4
          rw [escl_ev, hne.self] at b1
          rw [eadc_ev, eadd_ev, esym_ev, hne.self, hL] at b2
          have ez : z = (z.toNat : Int) := by omega
          have hlt : z.toNat < el 0 := by omega
          have h31 := hGS.2.2.1
          have hcI := cI_of (sv z.toNat)
          rw [ez]
          refine cT_aldS hG hc hlt (by omega) ?_
          cases hg : asg env n gh with
          | some zs =>
            rw [hg] at h
            obtain ⟨x', y1, y2, y3, y4⟩ := asg_ok hg
            refine a_n0 hF hrec hγ hd h hγ.gl (fun τ hτ => ⟨avR_mk0 hcI τ _ ?_, hr τ hτ⟩)
            obtain ⟨m, m1, m2⟩ := (hGS.1 x' τ g y2).mp ((hγ.1 τ hτ).2.2.2 x' y1)
            have := eeq_ok (hγ.1 τ hτ).1 y4
            rw [hne τ hτ, m1] at this
            have em : z.toNat = m := by omega
            rw [esym_ev, em, m2, y3]
          | none =>
            rw [hg] at h
            rw [afrs_eq] at h
            refine a_nx hF hrec hγ.2.2.1 hγ.2.2.2 hd h (by omega) (aup_ag ρ ne (sv z.toNat).toInt) (fun τ hτ => ?_) (hγ.gl.mono (by omega) (aup_ag ρ ne _)) (fun τ hτ => ⟨avR_mk0 hcI τ _ (afrs_ev τ hτ), hr.mono (by omega) (aup_ag ρ ne _) τ hτ⟩) (hγ.2.1.imp (fun _ x => x.2.2))
            have hτ2 : aag ne ρ τ := aag.tr (by omega) (aup_ag ρ ne _) hτ
            have hco := hγ.1 τ hτ2
            refine ⟨afrs_ok (hγ.1.imp (fun _ x => x.1)) hcI.1 (by have := hcI.2; omega) τ hτ, hco.2.1, hco.2.2.1, fun x hx => ?_⟩
            rcases List.mem_cons.mp hx with ex | hx
            · rw [ex]
              refine (hGS.1 _ τ g rfl).mpr ⟨z.toNat, ?_, ?_⟩
              · show ev τ n = _
                rw [hne τ hτ2]; omega
              · show _ = τ ne
                rw [hτ ne (by omega), aup_self]
            · exact hco.2.2.2 x hx
      | false =>
        rw [hb] at h
        simp only [cond_false] at h
        split at h
        · rename_i hn
          obtain ⟨g2, h'⟩ := xcnb h
          clear h
          obtain ⟨m1, g8⟩ := xand g2
          obtain ⟨m2, g7⟩ := xand m1
          obtain ⟨m3, g6⟩ := xand m2
          obtain ⟨m4, g5⟩ := xand m3
          obtain ⟨g3, g4⟩ := xand m4
          clear m1 m2 m3 m4 g2
          rw [xfrc_eq] at h'
          have h15 := xeqb g4
          clear g4
          subst h15
          have hins := hi15 rfl
          subst hins
          have e1 : n.1 = z := by
            have := hne.self
            have e2 : ev ρ n = n.1 := by unfold ev; rw [hn]; show _ + 0 = _; omega
            omega
          rw [e1] at g5 g6 g7 g8 h'
          have g5 := zle_iff.mp g5
          have ez : z = (z.toNat : Int) := by omega
          rw [ez]
          have hk24 : w.2.1 = 2 ∨ w.2.1 = 4 := (xor2 g3).imp xeqb xeqb
          have hec := hGS.2.2.2 _ hk24
          rw [hec] at g6
          refine cT_aldT hG hc hk24 (xltb g6) (xltb g7) ?_
          rw [nI_toInt (xltb g8)]
          have hlt := xltb g8
          exact a_n0 hF hrec hγ hd h' hγ.gl (fun τ hτ => ⟨avR_mk0 (by unfold cI; omega) τ _ (evc τ _), hr τ hτ⟩)
        · cases h
    · cases h
theorem a_ast_ok (hG : cW sv cd mi df el eb G) (hF : aFXm FX) (hrec : aSnd G h0 n0 cn0 sn0 Q tyt typs GS FX rec) (hc : cC cd y pc (ins, nx, tg, r1, r2)) (hγ : aGm h0 tyt typs GS FX ρ ls st fr mem env fx gh ne g lsc stc frc) (hd : dd ≤ d) {kd : Nat} (he : ∀ (rec : xF) (lx : List (Nat × xv)) (sx : List xv) (h : xheap), xex mi df el eb rec ins nx tg r1 r2 y d pc lx sx [] h n0 (cn0 y) (sn0 y) = x_ast rec nx y d pc lx sx [] h n0 (cn0 y) (sn0 y) kd) (hdn : ∀ (lf : dlf) (sx : List cv) (g : cg), dnx h0 sv mi el eb ins nx tg r1 r2 pc lf sx g = d_ast kd nx lf sx g) (hkd : kd = 13 ∨ kd = 14 ∨ kd = 15) (hFS : ∀ (ρ : Nat → Int) (ne : Nat) (g : cg) (k j : Nat) (z : Int), FX ρ ne g → wc k j → FX ρ ne (cup g k j z)) (hW : aWd h0 tyt typs) (hHS : aHS h0 tyt GS HS) (hWO : aWOK tyt WOK wc) (h : a_ast typs HS WOK rec nx y dd ls st fr mem env fx gh ne kd = true) : cTF G h0 n0 cn0 sn0 Q frc y d pc lsc stc g := by
  unfold a_ast at h
  match st, hγ, h with
  | [], _, h => cases h
  | [_], _, h => cases h
  | [_, _], _, h => cases h
  | v :: i :: w :: r, hγ, h =>
    obtain ⟨g1, h⟩ := xcnb h
    obtain ⟨g2, g3⟩ := xand g1
    obtain ⟨g4, g5⟩ := xand g2
    obtain ⟨vc, rc0, rfl, hv, hs0⟩ := a_top hγ.gs
    obtain ⟨iv, rc1, rfl, hi, hs1⟩ := a_top hs0
    obtain ⟨wv, rc, rfl, hw, hr⟩ := a_top hs1
    obtain ⟨z, rfl, hz, hze⟩ := a_int hi (xeqb g4)
    obtain ⟨k, rfl, hk1, hk2⟩ := a_refv hw (xeqb g5)
    obtain ⟨q, T, w1, w2, w3, w4, w5, w6, w7, w8⟩ := hW k _ hk1
    rw [w2] at h
    obtain ⟨g6, h⟩ := xcnb h
    obtain ⟨g7, g8⟩ := xand g6
    obtain ⟨g9, g10⟩ := xand g7
    have hb := efit_ok hγ.1.self.1 hγ.1.self.2.1 g8
    rw [hze.self] at hb
    have hb2 : z ≤ (T.2.1 : Int) + -1 := hb.2
    have ez : z = (z.toNat : Int) := by omega
    have hj : z.toNat < q.2.1 := by omega
    obtain ⟨ww, u, u1, u2, u3, u4⟩ := w8 z.toNat hj
    have hT13 : Nat.blt T.1 13 = false := by
      cases hq : Nat.blt T.1 13 with
      | false => rfl
      | true => have := xltb hq; have := xleb g10; omega
    have hu : agt T.2.2.2.2 0 = some u := by
      unfold apl at u2
      rw [hT13] at u2
      exact u2
    rw [hu] at h
    obtain ⟨g11, h⟩ := xcnb h
    have hvt : v.1 = ww.1 := by rw [u3]; exact (xeqb g11).symm
    have hkq : q.1 = kd := by rw [← w3]; exact xeqb g9
    rw [ez]
    cases hk15 : Nat.beq kd 15 with
    | false =>
      rw [hk15] at h
      have hcs : cstv kd vc = vc := by unfold cstv; rw [hk15]; rfl
      have hvw : (kd = 14 ∧ vc.1 = 2 ∧ ww.1 = 2) ∨ ((kd = 13 ∨ kd = 15) ∧ vc.1 = 0 ∧ ww.1 = 0) := by
        rcases hkd with e | e | e
        · subst e
          have e3 : v.1 = 0 := xeqb g3
          obtain ⟨x, rfl, -, -⟩ := a_int hv e3
          exact Or.inr ⟨Or.inl rfl, rfl, by rw [← hvt]; exact e3⟩
        · subst e
          have e3 : v.1 = 2 := xeqb g3
          obtain ⟨x, rfl, -, -⟩ := a_lngv hv e3
          exact Or.inl ⟨rfl, rfl, by rw [← hvt]; exact e3⟩
        · subst e; cases hk15
      refine cT_ast hG hc he hdn w1 hkq hj (by omega) u1 hvw ?_
      rw [hcs]
      exact a_stn hF hFS hrec hW hHS hWO hγ.2.2.1 hγ.2.2.2 hγ.1 hγ.gl (hγ.2.1.imp (fun _ x => x.2.2)) hd hr (fun τ hτ => ⟨hk2 τ hτ, (hze τ hτ).trans ez⟩) hk1 w1 hj u1 hv hvt (hvw.elim (fun x => Or.inr x.2.2) (fun x => Or.inl x.2.2)) h
    | true =>
      rw [hk15] at h
      simp only [cond_true] at h
      have e15 := xeqb hk15
      have e3 : v.1 = 0 := by
        have := xeqb g3
        rw [e15] at this
        exact this
      obtain ⟨x, rfl, hx, hxe⟩ := a_int hv e3
      have hw0 : ww.1 = 0 := by rw [← hvt]; exact e3
      have hcs : cstv kd (0, x) = (0, (i32 x).toInt8.toInt32.toInt) := by unfold cstv; rw [hk15]; rfl
      refine cT_ast hG hc he hdn w1 hkq hj (by omega) u1 (Or.inr ⟨Or.inr e15, rfl, hw0⟩) ?_
      rw [hcs]
      have hin := i2b_in (i32 x)
      obtain ⟨v', env', ne', ρ', q1, q2, q3, q4, q5, q6⟩ := aar_ok2 (v0 := (0, (i32 x).toInt8.toInt32.toInt)) hγ.1 hin (fun τ hτ b1 b2 => by
        rw [hxe τ hτ] at b1 b2 ⊢
        exact (i2b_id b1 b2).symm) (avR_mk0 (cI_of _)) h
      exact a_stn (v0 := (0, (i32 x).toInt8.toInt32.toInt)) hF hFS hrec hW hHS hWO hγ.2.2.1 (hF _ _ _ _ _ hγ.2.2.2 q2 q3) q4 (hγ.gl.mono q2 q3) ((hγ.2.1.imp (fun _ x => x.2.2)).mono q2 q3) hd (hr.mono q2 q3) (fun τ hτ => ⟨hk2.mono q2 q3 τ hτ, (hze.mono q2 q3 τ hτ).trans ez⟩) hk1 w1 hj u1 q5 (by rw [q6, hw0]) (Or.inl hw0) q1
end Snd5
