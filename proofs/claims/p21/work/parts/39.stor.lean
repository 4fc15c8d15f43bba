section
/-! Stores are right -/
theorem cup_same {g : cg} {k j : Nat} {z : Int} (h : g k j = z) : cup g k j z = g := by
  funext k' j'
  unfold cup
  split
  · rename_i e
    rw [e.1, e.2, h]
  · rfl
theorem ahit_ok {lo hi : Int} {n : ae} {c : acol} {ρ : Nat → Int} {j : Nat} (h1 : ev ρ n = (j : Int)) (h2 : lo ≤ (j : Int)) (h3 : (j : Int) ≤ hi) (h : acv c j) : ahit lo hi n c = true := by
  obtain ⟨a1, a2, a3⟩ := h
  unfold ahit
  rw [zle_iff.mpr (show c.1 ≤ hi by omega), zle_iff.mpr (show lo ≤ c.2.1 by omega)]
  simp only [cond_true]
  cases hs : zeq c.2.2.1 1 with
  | true => rfl
  | false =>
    simp only [cond_false]
    apply zeq_iff.mpr
    apply Int.emod_eq_zero_of_dvd
    have d1 : ((Nat.gcd c.2.2.1.natAbs (zgcd n.2) : Nat) : Int) ∣ c.2.2.1 := Int.dvd_natAbs.mp (Int.natCast_dvd_natCast.mpr (Nat.gcd_dvd_left _ _))
    have d2 : ((Nat.gcd c.2.2.1.natAbs (zgcd n.2) : Nat) : Int) ∣ evl ρ n.2 := Int.dvd_trans (Int.natCast_dvd_natCast.mpr (Nat.gcd_dvd_right _ _)) (zgcd_ok ρ n.2)
    have d3 : ((Nat.gcd c.2.2.1.natAbs (zgcd n.2) : Nat) : Int) ∣ ((j : Int) - c.1) := Int.dvd_trans d1 (Int.dvd_of_emod_eq_zero a3)
    have e : Int.add n.1 (Int.neg c.1) = ((j : Int) - c.1) - evl ρ n.2 := by
      show n.1 + -c.1 = _
      have : ev ρ n = n.1 + evl ρ n.2 := rfl
      omega
    rw [e]
    exact Int.dvd_sub d3 d2
section Stor
variable {h0 : xheap} {tyt : Lean.RArray (Nat × Nat)} {typs : Lean.RArray (Nat × aty)} {GS : gho → (Nat → Int) → cg → Prop} {HS : aenv → List ae → List am → List gho → Nat → ae → ae → av → List gho} {WOK : aenv → List ae → Nat → ae → ae → Bool} {wc : Nat → Nat → Prop}
def aHS (h0 : xheap) (tyt : Lean.RArray (Nat × Nat)) (GS : gho → (Nat → Int) → cg → Prop) (HS : aenv → List ae → List am → List gho → Nat → ae → ae → av → List gho) : Prop := ∀ (env : aenv) (fx : List ae) (mem : List am) (gh : List gho) (g : cg) (ρ : Nat → Int) (t : Nat) (c i : ae) (v : av) (k j : Nat), coR h0 tyt GS env fx mem gh g ρ → ev ρ c = (k : Int) → ev ρ i = (j : Int) → xg tyt k = some t → (∃ w, cat h0 g k j w ∧ (w.1 = 0 ∨ w.1 = 2)) → ghR GS (HS env fx mem gh t c i v) ρ (cup g k j (ev ρ v.2.2))
def aWOK (tyt : Lean.RArray (Nat × Nat)) (WOK : aenv → List ae → Nat → ae → ae → Bool) (wc : Nat → Nat → Prop) : Prop := ∀ (env : aenv) (fx : List ae) (t : Nat) (c i : ae) (ρ : Nat → Int) (k j : Nat), WOK env fx t c i = true → envR env ρ → fxR fx ρ → ev ρ c = (k : Int) → ev ρ i = (j : Int) → xg tyt k = some t → wc k j
theorem cval_1 : ∀ (w : xv) (z : Int), (cval w z).1 = w.1
  | (0, _), _ => rfl
  | (1, _), _ => rfl
  | (2, _), _ => rfl
  | (_ + 3, _), _ => rfl
theorem avR_num {τ : Nat → Int} {a : av} {w : xv} {z : Int} (h : avR tyt τ a (cval w z)) (ht : a.1 = 0 ∨ a.1 = 2) : z = ev τ a.2.2 := by
  have hw : w.1 = 0 ∨ w.1 = 2 := by
    rcases ht with e | e
    · have := congrArg Prod.fst (avR_int h e).1
      rw [cval_1] at this; exact Or.inl this
    · have := congrArg Prod.fst (avR_lng h e).1
      rw [cval_1] at this; exact Or.inr this
  obtain ⟨t, n⟩ := w
  have hz : (cval (t, n) z).2 = z := by rcases hw with e | e <;> (have e : t = _ := e; subst e; rfl)
  rcases ht with e | e
  · have := congrArg Prod.snd (avR_int h e).1
    rw [hz] at this; exact this
  · have := congrArg Prod.snd (avR_lng h e).1
    rw [hz] at this; exact this
theorem acpr_ok {env : aenv} {mem : List am} {t : Nat} {c i e : ae} {cols : List (Int × Int × List acol)} {b : Int × Int × List acol} {col : acol} {ρ : Nat → Int} {g : cg} {kc j : Nat} (hE : envR env ρ) (hm : amsR h0 tyt ρ g mem) (hc : ev ρ c = (kc : Int)) (hi : ev ρ i = (j : Int)) (hI : ∀ b ∈ cols, ∀ c ∈ b.2.2, ∀ j : Nat, b.1 ≤ (j : Int) → (j : Int) ≤ b.2.1 → acv c j → c.2.2.2.1 ≤ g kc j ∧ g kc j ≤ c.2.2.2.2) (hb1 : b.1 ≤ (j : Int)) (hb2 : (j : Int) ≤ b.2.1) (ha : acv col j) (h : acpr env mem t c i e cols b col = true) : col.2.2.2.1 ≤ ev ρ e ∧ ev ρ e ≤ col.2.2.2.2 := by
  unfold acpr at h
  obtain ⟨m, hmm, h⟩ := List.any_eq_true.mp h
  obtain ⟨h1, h⟩ := xcnb h
  obtain ⟨h2, h⟩ := xcnb h
  obtain ⟨h3, h⟩ := xcnb h
  obtain ⟨h4, h⟩ := xcnb h
  rw [efrc_eq] at h
  have ht : m.2.2.2.1 = 0 ∨ m.2.2.2.1 = 2 := (xcnt h2).imp xeqb xeqb
  obtain ⟨k', j', v, a1, a2, a3, ⟨q, w, b1, b2, b3⟩, a5⟩ := hm m hmm
  have ek : k' = kc := by have := eeq_ok hE h4; omega
  subst ek
  subst b3
  have hv := avR_num a5 ht
  rw [eeqb_ok h3] at hv
  have hd := enor_ok hE (eadd m.2.2.1 i (-1))
  rw [eadd_ev, a2, hi] at hd
  generalize enor env (eadd m.2.2.1 i (-1)) = dd at h hd
  split at h
  · rename_i hn
    have hdv : dd.1 = (j' : Int) - (j : Int) := by
      have : ev ρ dd = dd.1 := by unfold ev; rw [hn]; show _ + 0 = _; omega
      omega
    unfold acol2 at h
    obtain ⟨b2', hb2', h⟩ := List.any_eq_true.mp h
    obtain ⟨l1, h⟩ := xcnb h
    obtain ⟨l2, h⟩ := xcnb h
    obtain ⟨c2, hc2, h⟩ := List.any_eq_true.mp h
    obtain ⟨l3, h⟩ := xcnb h
    obtain ⟨l4, h⟩ := xcnb h
    obtain ⟨l5, h⟩ := xcnb h
    obtain ⟨l6, l7⟩ := xcnb h
    have l1 : b2'.1 = b.1 + dd.1 := zeq_iff.mp l1
    have l2 : b2'.2.1 = b.2.1 + dd.1 := zeq_iff.mp l2
    have l3 : c2.1 = col.1 + dd.1 := zeq_iff.mp l3
    have l4 : c2.2.1 = col.2.1 + dd.1 := zeq_iff.mp l4
    have l5 : c2.2.2.1 = col.2.2.1 := zeq_iff.mp l5
    have l6 := zle_iff.mp l6
    have l7 := zle_iff.mp l7
    obtain ⟨x1, x2, x3⟩ := ha
    have := hI b2' hb2' c2 hc2 j' (by omega) (by omega) ⟨by omega, by omega, by rw [l5, l3, show (j' : Int) - (col.1 + dd.1) = (j : Int) - col.1 by omega]; exact x3⟩
    rw [hv] at this
    omega
  · cases h
theorem acok_ok {env : aenv} {fx : List ae} {mem : List am} {t : Nat} {c i e : ae} {lo hi : Int} {cols : List (Int × Int × List acol)} {ρ : Nat → Int} {g : cg} {kc j : Nat} (hE : envR env ρ) (hFx : fxR fx ρ) (hm : amsR h0 tyt ρ g mem) (hc : ev ρ c = (kc : Int)) (hi' : ev ρ i = (j : Int)) (h2 : lo ≤ (j : Int)) (h3 : (j : Int) ≤ hi) (hI : ∀ b ∈ cols, ∀ c ∈ b.2.2, ∀ j : Nat, b.1 ≤ (j : Int) → (j : Int) ≤ b.2.1 → acv c j → c.2.2.2.1 ≤ g kc j ∧ g kc j ≤ c.2.2.2.2) (h : acok env fx mem t c i lo hi e cols = true) : ∀ b ∈ cols, ∀ col ∈ b.2.2, b.1 ≤ (j : Int) → (j : Int) ≤ b.2.1 → acv col j → col.2.2.2.1 ≤ ev ρ e ∧ ev ρ e ≤ col.2.2.2.2 := by
  intro b hb col hcol b1 b2 ha
  unfold acok at h
  have h := List.all_eq_true.mp h b hb
  rw [zle_iff.mpr (show b.1 ≤ hi by omega), zle_iff.mpr (show lo ≤ b.2.1 by omega)] at h
  simp only [cond_true] at h
  have h := List.all_eq_true.mp h col hcol
  rw [ahit_ok hi' h2 h3 ha] at h
  simp only [cond_true] at h
  rcases xcnt h with h | h
  · exact efit_ok hE hFx h
  · exact acpr_ok hE hm hc hi' hI b1 b2 ha h
theorem astor_ok (hW : aWd h0 tyt typs) (hHS : aHS h0 tyt GS HS) (hWO : aWOK tyt WOK wc) {t : Nat} {c0 i0 : ae} {v : av} {mem : List am} {env : aenv} {fx : List ae} {gh : List gho} {ne : Nat} {k : List am → List gho → Bool} {ρ : Nat → Int} {g : cg} (hI : aInv tyt typs g) {kc j : Nat}
    (hC : aC ne ρ (coR h0 tyt GS env fx mem gh g)) (hp0 : aC ne ρ (fun τ => ev τ c0 = (kc : Int) ∧ ev τ i0 = (j : Int))) (ht : xg tyt kc = some t) {q : xcell} {w : xv} (hq : xg h0 kc = some q) (hj : j < q.2.1) (hw : xg q.2.2 j = some w) {v0 : cv} (hv : aC ne ρ (fun τ => avR tyt τ v v0)) (hvt : v.1 = w.1) (hwt : w.1 = 0 ∨ w.1 = 2)
    (h : astor typs HS WOK t c0 i0 v mem env fx gh ne k = true) : ∃ mem' gh', k mem' gh' = true ∧ aC ne ρ (coR h0 tyt GS env fx mem' gh' (cup g kc j v0.2)) ∧ aInv tyt typs (cup g kc j v0.2) ∧ wc kc j := by
  unfold astor at h
  rw [efrc_eq, efrc_eq] at h
  have hp : aC ne ρ (fun τ => ev τ (enor env c0) = (kc : Int) ∧ ev τ (enor env i0) = (j : Int)) := fun τ hτ => by
    have := hp0 τ hτ
    have hE := (hC τ hτ).1
    exact ⟨(enor_ok hE c0).trans this.1, (enor_ok hE i0).trans this.2⟩
  generalize enor env c0 = c at h hp
  generalize enor env i0 = i at h hp
  obtain ⟨q', T, w1, w2, w3, w4, w5, w6, w7, w8⟩ := hW kc t ht
  have eq : q' = q := Option.some.inj (w1.symm.trans hq)
  subst eq
  rw [w2] at h
  dsimp only at h
  cases hu : eu env i with
  | none => rw [hu] at h; cases h
  | some hi =>
    rw [hu] at h
    dsimp only at h
    rw [efrc_eq] at h
    cases hl : eu env (escl i (-1)) with
    | none => rw [hl] at h; cases h
    | some lo =>
      rw [hl] at h
      dsimp only at h
      rw [zfrc_eq] at h
      obtain ⟨k1, h⟩ := xcnb h
      obtain ⟨k2, h⟩ := xcnb h
      have hR := hC.self
      have hpp := hp.self
      have b1 := eu_ok hR.1 hu
      have b2 := eu_ok hR.1 hl
      rw [escl_ev] at b2
      have hwc := hWO env fx t c i ρ kc j k1 hR.1 hR.2.1 hpp.1 hpp.2 ht
      have htag : v.1 = 0 ∨ v.1 = 2 := by rw [hvt]; exact hwt
      have hz : ∀ τ, aag ne ρ τ → ev τ v.2.2 = v0.2 := fun τ hτ => by
        rcases htag with e | e
        · exact (congrArg Prod.snd (avR_int (hv τ hτ) e).1).symm
        · exact (congrArg Prod.snd (avR_lng (hv τ hτ) e).1).symm
      have hv0 : v0 = cval w v0.2 := by
        obtain ⟨wt, wn⟩ := w
        have hvt : v.1 = wt := hvt
        rcases hwt with e | e
        · have e : wt = 0 := e
          subst e
          have := (avR_int hv.self hvt).1
          rw [this]; rfl
        · have e : wt = 2 := e
          subst e
          have := (avR_lng hv.self hvt).1
          rw [this]; rfl
      have hInv : aInv tyt typs (cup g kc j v0.2) := by
        intro k' t' T' ht' hT'
        by_cases hk : k' = kc
        · subst hk
          have e1 : t' = t := Option.some.inj (ht'.symm.trans ht)
          subst e1
          have e2 : T' = T := Option.some.inj (hT'.symm.trans w2)
          subst e2
          have hold := hI k' t' T' ht' hT'
          refine ⟨fun b hb cc hcc j' b1' b2' ha => ?_, fun j' u hj' hu' => ?_⟩
          · unfold cup
            by_cases ej : j' = j
            · subst ej
              rw [if_pos ⟨rfl, rfl⟩, ← hz ρ (aag.rf ne ρ)]
              exact acok_ok hR.1 hR.2.1 hR.2.2.1 hpp.1 hpp.2 (by show -lo ≤ _; omega) (by omega) hold.1 k2 b hb cc hcc b1' b2' ha
            · rw [if_neg (fun z => ej z.2)]
              exact hold.1 b hb cc hcc j' b1' b2' ha
          · unfold cup
            by_cases ej : j' = j
            · subst ej
              rw [if_pos ⟨rfl, rfl⟩]
              obtain ⟨w', u', x1, x2, x3, x4⟩ := w8 j' hj
              have e3 : w' = w := Option.some.inj (x1.symm.trans hw)
              subst e3
              have e4 : u' = u := Option.some.inj (x2.symm.trans hu')
              subst e4
              refine ⟨fun z => ?_, fun z => ?_⟩
              · have e5 : v.1 = 0 := by rw [hvt, x3]; exact z
                rw [← hz ρ (aag.rf ne ρ)]
                exact (avR_int hv.self e5).2
              · have e5 : v.1 = 2 := by rw [hvt, x3]; exact z
                rw [← hz ρ (aag.rf ne ρ)]
                exact (avR_lng hv.self e5).2
            · rw [if_neg (fun z => ej z.2)]
              exact hold.2 j' u hj' hu'
        · have e : ∀ j' : Nat, cup g kc j v0.2 k' j' = g k' j' := fun j' => by unfold cup; rw [if_neg (fun z => hk z.1)]
          have hold := hI k' t' T' ht' hT'
          refine ⟨fun b hb cc hcc j' b1' b2' ha => ?_, fun j' u hj' hu' => ?_⟩
          · rw [e]; exact hold.1 b hb cc hcc j' b1' b2' ha
          · rw [e]; exact hold.2 j' u hj' hu'
      have hput : amk env t c i mem (fun r => k ((t, c, i, v) :: r) (HS env fx mem gh t c i v)) = true → ∃ mem' gh', k mem' gh' = true ∧ aC ne ρ (coR h0 tyt GS env fx mem' gh' (cup g kc j v0.2)) ∧ aInv tyt typs (cup g kc j v0.2) ∧ wc kc j := by
        intro hk
        obtain ⟨r, e1, e2⟩ := amk_ok env t c i mem (fun r => k ((t, c, i, v) :: r) (HS env fx mem gh t c i v))
        rw [e1] at hk
        refine ⟨_, _, hk, fun τ hτ => ?_, hInv, hwc⟩
        have hRτ := hC τ hτ
        have hpτ := hp τ hτ
        refine ⟨hRτ.1, hRτ.2.1, amsR_cons ⟨kc, j, v0, hpτ.1, hpτ.2, ht, ⟨q', w, hq, hw, ?_⟩, hv τ hτ⟩ (fun m hm => amR_keep hRτ.1 hpτ.1 hpτ.2 ht (hRτ.2.2.1 m (e2 m hm).1) (e2 m hm).2), ?_⟩
        · unfold cup
          rw [if_pos ⟨rfl, rfl⟩]
          exact hv0
        · have := hHS env fx mem gh g τ t c i v kc j hRτ hpτ.1 hpτ.2 ht ⟨cval w (g kc j), ⟨q', w, hq, hw, rfl⟩, by rw [cval_1]; exact hwt⟩
          rw [hz τ hτ] at this
          exact this
      cases hm : amg env t c i mem with
      | none => rw [hm] at h; exact hput h
      | some old =>
        rw [hm] at h
        dsimp only at h
        cases hb : (Nat.beq old.1 v.1 && eeq env old.2.2 v.2.2) with
        | false => rw [hb] at h; exact hput h
        | true =>
          rw [hb] at h
          obtain ⟨l1, l2⟩ := xand hb
          have hsame : g kc j = v0.2 := by
            obtain ⟨k', j', wv, a1, a2, a3, a4⟩ := amg_ok hR.1 hR.2.2.1 hm
            have e1 : k' = kc := by have := hpp.1; omega
            have e2 : j' = j := by have := hpp.2; omega
            subst e1; subst e2
            obtain ⟨qq, ww, c1, c2, c3⟩ := a3
            have e3 : qq = q' := Option.some.inj (c1.symm.trans hq)
            subst e3
            have e4 : ww = w := Option.some.inj (c2.symm.trans hw)
            subst e4
            subst c3
            have ht2 : old.1 = 0 ∨ old.1 = 2 := by rw [xeqb l1]; exact htag
            rw [avR_num a4 ht2, eeq_ok hR.1 l2, hz ρ (aag.rf ne ρ)]
          refine ⟨mem, gh, h, ?_, hInv, hwc⟩
          rw [cup_same hsame]
          exact hC
end Stor
end
section
/-! The step is right: cells -/
section Snd5
variable {sv : Nat → Int32} {cd : xcd} {mi : xmi} {df : xdf} {el ec : Nat → Nat} {eb : Nat → List Nat} {G : xG} {h0 : xheap} {n0 : Nat} {cn0 sn0 : Nat → Nat} {Q : cg → Option cv → Prop}
variable {tyt : Lean.RArray (Nat × Nat)} {typs : Lean.RArray (Nat × aty)} {GS : gho → (Nat → Int) → cg → Prop} {FX : (Nat → Int) → Nat → cg → Prop} {wc : Nat → Nat → Prop}
variable {HK : aenv → List ae → List am → List gho → Nat → ae → ae → Int × Int → Int × Int} {HS : aenv → List ae → List am → List gho → Nat → ae → ae → av → List gho} {WOK : aenv → List ae → Nat → ae → ae → Bool} {WOA : aenv → List ae → Nat → ae → Bool} {HA : aenv → List ae → List am → List gho → Nat → ae → Nat → ae → ae → ae → ae → List gho}
variable {rec : aF} {y d dd pc nx tg r1 r2 : Nat} {ins : Instr} {ls : List (Nat × av)} {st : List av} {fr : List afr} {mem : List am} {env : aenv} {fx : List ae} {gh : List gho} {ne : Nat} {ρ : Nat → Int} {g : cg} {lsc : List (Nat × cv)} {stc : List cv} {frc : List cfr}
theorem aar_ok2 {tag : Nat} {e : ae} {lo hi : Int} {env : aenv} {fx : List ae} {mem : List am} {gh : List gho} {ne : Nat} {ρ : Nat → Int} {g : cg} {k : av → aenv → Nat → Bool} {v0 : cv} {z : Int} (hC : aC ne ρ (coR h0 tyt GS env fx mem gh g)) (hz : lo ≤ z ∧ z ≤ hi) (he : aC ne ρ (fun τ => lo ≤ ev τ e → ev τ e ≤ hi → ev τ e = z)) (hv : ∀ (τ : Nat → Int) (x : ae), ev τ x = z → avR tyt τ (tag, 0, x) v0)
    (h : aar tag e lo hi env fx ne k = true) : ∃ v env' ne' ρ', k v env' ne' = true ∧ ne ≤ ne' ∧ aag ne ρ ρ' ∧ aC ne' ρ' (coR h0 tyt GS env' fx mem gh g) ∧ aC ne' ρ' (fun τ => avR tyt τ v v0) ∧ v.1 = tag := by
  unfold aar at h
  cases hf : efit env fx e lo hi with
  | true =>
    rw [hf] at h
    refine ⟨_, env, ne, ρ, h, Nat.le_refl _, aag.rf ne ρ, hC, fun τ hτ => ?_, rfl⟩
    obtain ⟨b1, b2⟩ := efit_ok (hC τ hτ).1 (hC τ hτ).2.1 hf
    exact hv τ e (he τ hτ b1 b2)
  | false =>
    rw [hf] at h
    simp only [cond_false] at h
    rw [afrs_eq] at h
    refine ⟨_, _, _, aup ρ ne z, h, by omega, aup_ag ρ ne z, fun τ hτ => ?_, fun τ hτ => hv τ _ (afrs_ev τ hτ), rfl⟩
    exact coR_env (hC τ (aag.tr (by omega) (aup_ag ρ ne z) hτ)) (afrs_ok (hC.imp (fun _ x => x.1)) hz.1 hz.2 τ hτ) (hC τ (aag.tr (by omega) (aup_ag ρ ne z) hτ)).2.1
theorem a_refv {a : av} {v : cv} (h : aC ne ρ (fun τ => avR tyt τ a v)) (ht : a.1 = 4) : ∃ k : Nat, v = (4, (k : Int)) ∧ xg tyt k = some a.2.1 ∧ aC ne ρ (fun τ => ev τ a.2.2 = (k : Int)) := by
  obtain ⟨k, h1, h2, h3⟩ := avR_ref h.self ht
  refine ⟨k, h1, h3, fun τ hτ => ?_⟩
  obtain ⟨k', g1, g2, g3⟩ := avR_ref (h τ hτ) ht
  have : (k : Int) = (k' : Int) := by
    have := h1.symm.trans g1
    exact congrArg Prod.snd this
  show ev τ a.2.2 = _
  omega
/-- a load, then the next -/
theorem a_ldn (hF : aFXm FX) (hrec : aSnd G h0 n0 cn0 sn0 Q tyt typs GS FX rec) (hW : aWd h0 tyt typs) (hHK : aHK h0 tyt GS HK) (hγ : aGm h0 tyt typs GS FX ρ ls st fr mem env fx gh ne g lsc stc frc) (hd : dd ≤ d) {t : Nat} {c0 i0 : ae} {kc j : Nat} {r : List av} {rc : List cv} (hs : aC ne ρ (fun τ => stR tyt τ r rc))
    (hp0 : aC ne ρ (fun τ => ev τ c0 = (kc : Int) ∧ ev τ i0 = (j : Int))) (ht : xg tyt kc = some t) {v0 : cv} (hcat : cat h0 g kc j v0) {q : xcell} (hq : xg h0 kc = some q) (hj : j < q.2.1)
    (h : aload h0 typs HK t c0 i0 mem env fx gh ne (fun v mem env ne => rec y dd nx ls (v :: r) fr mem env fx gh ne) = true) : cTF G h0 n0 cn0 sn0 Q frc y d nx lsc (v0 :: rc) g := by
  obtain ⟨v, mem', env', ne', ρ', h1, h2, h3, h4, h5⟩ := aload_ok hW hHK hγ.2.2.1 hγ.1 hp0 ht hcat hq hj h
  exact a_nx hF hrec hγ.2.2.1 hγ.2.2.2 hd h1 h2 h3 h4 (hγ.gl.mono h2 h3) (fun τ hτ => ⟨h5 τ hτ, hs.mono h2 h3 τ hτ⟩) (hγ.2.1.imp (fun _ x => x.2.2))
theorem a_get_ok (hG : cW sv cd mi df el eb G) (hF : aFXm FX) (hrec : aSnd G h0 n0 cn0 sn0 Q tyt typs GS FX rec) (hγ : aGm h0 tyt typs GS FX ρ ls st fr mem env fx gh ne g lsc stc frc) (hd : dd ≤ d) {i : Nat} (hW : aWd h0 tyt typs) (hHK : aHK h0 tyt GS HK) (hc : cC cd y pc (.getfield i, nx, tg, r1, r2)) (h : a_get h0 typs HK rec nx r1 r2 y dd ls st fr mem env fx gh ne = true) : cTF G h0 n0 cn0 sn0 Q frc y d pc lsc stc g := by
  unfold a_get at h
  match st, hγ, h with
  | [], _, h => cases h
  | w :: r, hγ, h =>
    dsimp only at h
    obtain ⟨v, rc, rfl, hv, hr⟩ := a_top hγ.gs
    split at h
    · rename_i hw4
      obtain ⟨k, rfl, hk1, hk2⟩ := a_refv hv hw4
      obtain ⟨q, T, w1, w2, w3, w4, w5, w6, w7, w8⟩ := hW k _ hk1
      rw [w2] at h
      obtain ⟨g1, g2⟩ := xcnb h
      obtain ⟨g3, g4⟩ := xand g1
      obtain ⟨g5, g6⟩ := xand g3
      have hj : r2 < q.2.1 := by rw [← w4]; exact xltb g4
      obtain ⟨ww, u, u1, u2, u3, u4⟩ := w8 r2 hj
      refine cT_get hG hc w1 (by rw [← w3]; exact xeqb g5) (xltb g6) u1 ?_
      exact a_ldn hF hrec hW hHK hγ hd hr (fun τ hτ => ⟨hk2 τ hτ, evc τ _⟩) hk1 ⟨q, ww, w1, u1, rfl⟩ w1 hj g2
    · rename_i hw6
      obtain ⟨g1, g2⟩ := xcnb h
      obtain ⟨g3, g4⟩ := xand g1
      have e := avR_ext hv.self hw6
      subst e
      refine cT_getE hG hc ((xor2 g3).imp xeqb xeqb) (xeqb g4) ?_
      refine a_n0 hF hrec hγ hd g2 hγ.gl (fun τ hτ => ⟨?_, hr τ hτ⟩)
      cases Nat.beq r2 0 with
      | true => exact rfl
      | false => exact avR_mk0 (by unfold cI; omega) τ _ (evc τ 0)
    · cases h
/-- a store, then the next -/
theorem a_stn (hF : aFXm FX) (hFS : ∀ (ρ : Nat → Int) (ne : Nat) (g : cg) (k j : Nat) (z : Int), FX ρ ne g → wc k j → FX ρ ne (cup g k j z)) (hrec : aSnd G h0 n0 cn0 sn0 Q tyt typs GS FX rec) (hW : aWd h0 tyt typs) (hHS : aHS h0 tyt GS HS) (hWO : aWOK tyt WOK wc) (hI : aInv tyt typs g) (hX : FX ρ ne g) (hC : aC ne ρ (coR h0 tyt GS env fx mem gh g)) (hl : aC ne ρ (fun τ => lsR tyt τ ls lsc)) (hf : aC ne ρ (fun τ => frR tyt τ fr frc)) (hd : dd ≤ d) {t : Nat} {c0 i0 : ae} {v : av} {kc j : Nat} {r : List av} {rc : List cv} (hs : aC ne ρ (fun τ => stR tyt τ r rc))
    (hp0 : aC ne ρ (fun τ => ev τ c0 = (kc : Int) ∧ ev τ i0 = (j : Int))) (ht : xg tyt kc = some t) {q : xcell} {w : xv} (hq : xg h0 kc = some q) (hj : j < q.2.1) (hw : xg q.2.2 j = some w) {v0 : cv} (hv : aC ne ρ (fun τ => avR tyt τ v v0)) (hvt : v.1 = w.1) (hwt : w.1 = 0 ∨ w.1 = 2)
    (h : astor typs HS WOK t c0 i0 v mem env fx gh ne (fun mem gh => rec y dd nx ls r fr mem env fx gh ne) = true) : cTF G h0 n0 cn0 sn0 Q frc y d nx lsc rc (cup g kc j v0.2) := by
  obtain ⟨mem', gh', h1, h2, h3, h4⟩ := astor_ok hW hHS hWO hI hC hp0 ht hq hj hw hv hvt hwt h
  exact a_nx hF hrec h3 (hFS _ _ _ _ _ _ hX h4) hd h1 (Nat.le_refl _) (aag.rf _ _) h2 hl hs hf
theorem aftf_ok {tc : Nat} {v : av} {v0 : cv} (hC : aC ne ρ (coR h0 tyt GS env fx mem gh g)) (hv : aC ne ρ (fun τ => avR tyt τ v v0)) (h : aftf env fx tc v = true) : xfit tc (cenc v0) = true ∧ (v.1 = 0 ∨ v.1 = 2) := by
  unfold aftf at h
  split at h
  · obtain ⟨z, rfl, -, -⟩ := a_int hv (xeqb h)
    exact ⟨rfl, Or.inl (xeqb h)⟩
  · obtain ⟨z, rfl, -, -⟩ := a_lngv hv (xeqb h)
    exact ⟨rfl, Or.inr (xeqb h)⟩
  · obtain ⟨h1, h2⟩ := xcnb h
    obtain ⟨z, rfl, hz, hze⟩ := a_int hv (xeqb h1)
    refine ⟨?_, Or.inl (xeqb h1)⟩
    have hb := efit_ok hC.self.1 hC.self.2.1 h2
    rw [hze.self] at hb
    show (Nat.beq 0 0 && Nat.ble (c32 z) 1) = true
    rw [c32_nat hb.1 (by omega), xle1 (by omega)]
    rfl
  · cases h
theorem a_put_ok (hG : cW sv cd mi df el eb G) (hF : aFXm FX) (hrec : aSnd G h0 n0 cn0 sn0 Q tyt typs GS FX rec) (hγ : aGm h0 tyt typs GS FX ρ ls st fr mem env fx gh ne g lsc stc frc) (hd : dd ≤ d) {i : Nat} (hFS : ∀ (ρ : Nat → Int) (ne : Nat) (g : cg) (k j : Nat) (z : Int), FX ρ ne g → wc k j → FX ρ ne (cup g k j z)) (hW : aWd h0 tyt typs) (hHS : aHS h0 tyt GS HS) (hWO : aWOK tyt WOK wc) (hc : cC cd y pc (.putfield i, nx, tg, r1, r2)) (h : a_put typs HS WOK rec nx tg r1 r2 y dd ls st fr mem env fx gh ne = true) : cTF G h0 n0 cn0 sn0 Q frc y d pc lsc stc g := by
  unfold a_put at h
  match st, hγ, h with
  | [], _, h => cases h
  | [_], _, h => cases h
  | v :: w :: r, hγ, h =>
    obtain ⟨g1, g2⟩ := xcnb h
    obtain ⟨g3, g4⟩ := xand g1
    obtain ⟨vc, rc1, rfl, hv, hs1⟩ := a_top hγ.gs
    obtain ⟨wc', rc, rfl, hw, hs⟩ := a_top hs1
    obtain ⟨k, rfl, hk1, hk2⟩ := a_refv hw (xeqb g3)
    obtain ⟨q, T, w1, w2, w3, w4, w5, w6, w7, w8⟩ := hW k _ hk1
    rw [w2] at g2
    obtain ⟨g5, g6⟩ := xcnb g2
    obtain ⟨g7, g8⟩ := xand g5
    obtain ⟨g9, g10⟩ := xand g7
    have hj : r2 < q.2.1 := by rw [← w4]; exact xltb g8
    obtain ⟨ww, u, u1, u2, u3, u4⟩ := w8 r2 hj
    have hT13 : Nat.blt T.1 13 = true := by rw [xeqb g9]; exact g10
    have hu : agt T.2.2.2.2 r2 = some u := by
      unfold apl at u2
      rw [hT13] at u2
      exact u2
    rw [hu] at g6
    obtain ⟨g11, g12⟩ := xcnb g6
    obtain ⟨f1, f2⟩ := aftf_ok hγ.1 hv g4
    have hvt : v.1 = ww.1 := by rw [u3]; exact (xeqb g11).symm
    have hwt : ww.1 = 0 ∨ ww.1 = 2 := by rw [← hvt]; exact f2
    have hvc : cenc vc = cpl ww vc.2 := by
      obtain ⟨wt, wn⟩ := ww
      have hvt : v.1 = wt := hvt
      rcases hwt with e | e
      · have e : wt = 0 := e
        subst e
        obtain ⟨z, rfl, -, -⟩ := a_int hv hvt
        rfl
      · have e : wt = 2 := e
        subst e
        obtain ⟨z, rfl, -, -⟩ := a_lngv hv hvt
        rfl
    refine cT_put hG hc w1 (by rw [← w3]; exact xeqb g9) hj u1 hvc f1 ?_
    exact a_stn hF hFS hrec hW hHS hWO hγ.2.2.1 hγ.2.2.2 hγ.1 hγ.gl (hγ.2.1.imp (fun _ x => x.2.2)) hd hs (fun τ hτ => ⟨hk2 τ hτ, evc τ _⟩) hk1 w1 hj u1 hv hvt hwt g12
theorem asl_ok : ∀ {gh : List gho} {s : Nat}, asl gh = some s → ∃ x ∈ gh, x.1 = 51 ∧ x.2.1 = s
  | [], _, h => by cases h
  | q :: l, s, h => by
    have h : cond (Nat.beq q.1 51) (some q.2.1) (asl l) = some s := h
    cases hb : Nat.beq q.1 51 with
    | true => rw [hb] at h; exact ⟨q, List.mem_cons_self, xeqb hb, Option.some.inj h⟩
    | false =>
      rw [hb] at h
      obtain ⟨x, h1, h2⟩ := asl_ok h
      exact ⟨x, List.mem_cons_of_mem _ h1, h2⟩
theorem asg_ok {env : aenv} {e : ae} : ∀ {gh : List gho} {s : Nat}, asg env e gh = some s → ∃ x ∈ gh, x.1 = 50 ∧ x.2.1 = s ∧ eeq env x.2.2.2 e = true
  | [], _, h => by cases h
  | q :: l, s, h => by
    have h : cond (Nat.beq q.1 50) (cond (eeq env q.2.2.2 e) (some q.2.1) (asg env e l)) (asg env e l) = some s := h
    have tl : asg env e l = some s → ∃ x ∈ q :: l, x.1 = 50 ∧ x.2.1 = s ∧ eeq env x.2.2.2 e = true := fun h => by
      obtain ⟨x, h1, h2⟩ := asg_ok h
      exact ⟨x, List.mem_cons_of_mem _ h1, h2⟩
    cases hb : Nat.beq q.1 50 with
    | false => rw [hb] at h; exact tl h
    | true =>
      rw [hb] at h
      cases hb2 : eeq env q.2.2.2 e with
      | false => rw [hb2] at h; exact tl h
      | true => rw [hb2] at h; exact ⟨q, List.mem_cons_self, xeqb hb, Option.some.inj h, hb2⟩
/-- what the script's ghosts say -/
def aGS0 (sv : Nat → Int32) (el ec : Nat → Nat) (GS : gho → (Nat → Int) → cg → Prop) : Prop := (∀ (x : gho) (ρ : Nat → Int) (g : cg), x.1 = 50 → (GS x ρ g ↔ ∃ n : Nat, ev ρ x.2.2.2 = (n : Int) ∧ (sv n).toInt = ρ x.2.1)) ∧ (∀ (x : gho) (ρ : Nat → Int) (g : cg), x.1 = 51 → (GS x ρ g ↔ ρ x.2.1 = (el 0 : Int))) ∧ el 0 < 2147483648 ∧ ∀ k : Nat, k = 2 ∨ k = 4 → ec k = el k
theorem a_len_ok (hG : cW sv cd mi df el eb G) (hF : aFXm FX) (hrec : aSnd G h0 n0 cn0 sn0 Q tyt typs GS FX rec) (hγ : aGm h0 tyt typs GS FX ρ ls st fr mem env fx gh ne g lsc stc frc) (hd : dd ≤ d) (hGS : aGS0 sv el ec GS) (hW : aWd h0 tyt typs) (hc : cC cd y pc (.arraylength, nx, tg, r1, r2)) (h : a_len typs ec rec nx y dd ls st fr mem env fx gh ne = true) : cTF G h0 n0 cn0 sn0 Q frc y d pc lsc stc g := by
  unfold a_len at h
  match st, hγ, h with
  | [], _, h => cases h
  | w :: r, hγ, h =>
    dsimp only at h
    obtain ⟨v, rc, rfl, hv, hr⟩ := a_top hγ.gs
    split at h
    · rename_i hw4
      obtain ⟨k, rfl, hk1, hk2⟩ := a_refv hv hw4
      obtain ⟨q, T, w1, w2, w3, w4, w5, w6, w7, w8⟩ := hW k _ hk1
      rw [w2] at h
      obtain ⟨g1, g2⟩ := xcnb h
      rw [xfrc_eq] at g2
      refine cT_len hG hc w1 (by rw [← w3]; exact xleb g1) w5 ?_
      rw [← w4]
      exact a_n0 hF hrec hγ hd g2 hγ.gl (fun τ hτ => ⟨avR_mk0 (by unfold cI; omega) τ _ (evc τ _), hr τ hτ⟩)
    · rename_i hw6
      have e := avR_ext hv.self hw6
      subst e
      cases hb : Nat.beq w.2.1 0 with
      | true =>
        rw [hb] at h
        simp only [cond_true] at h
        have e0 := xeqb hb
        rw [e0]
        cases ha : asl gh with
        | none => rw [ha] at h; cases h
        | some s =>
          rw [ha] at h
          obtain ⟨x, x1, x2, x3⟩ := asl_ok ha
          refine cT_lenE hG hc (Or.inl rfl) hGS.2.2.1 ?_
          refine a_n0 hF hrec hγ hd h hγ.gl (fun τ hτ => ⟨avR_mk0 (by have := hGS.2.2.1; unfold cI; omega) τ _ ?_, hr τ hτ⟩)
          have := (hGS.2.1 x τ g x2).mp ((hγ.1 τ hτ).2.2.2 x x1)
          rw [x3] at this
          rw [esym_ev]; exact this
      | false =>
        rw [hb] at h
        simp only [cond_false] at h
        obtain ⟨g1, g2⟩ := xcnb h
        obtain ⟨g3, g4⟩ := xand g1
        rw [xfrc_eq] at g2
        have hk24 : w.2.1 = 2 ∨ w.2.1 = 4 := (xor2 g3).imp xeqb xeqb
        have hec := hGS.2.2.2 _ hk24
        rw [hec] at g2 g4
        have hl := xltb g4
        refine cT_lenE hG hc (Or.inr hk24) hl ?_
        exact a_n0 hF hrec hγ hd g2 hγ.gl (fun τ hτ => ⟨avR_mk0 (by unfold cI; omega) τ _ (evc τ _), hr τ hτ⟩)
    · cases h
theorem a_ald_ok (hG : cW sv cd mi df el eb G) (hF : aFXm FX) (hrec : aSnd G h0 n0 cn0 sn0 Q tyt typs GS FX rec) (hc : cC cd y pc (ins, nx, tg, r1, r2)) (hγ : aGm h0 tyt typs GS FX ρ ls st fr mem env fx gh ne g lsc stc frc) (hd : dd ≤ d) {kd : Nat} (he : ∀ (rec : xF) (lx : List (Nat × xv)) (sx : List xv) (h : xheap), xex mi df el eb rec ins nx tg r1 r2 y d pc lx sx [] h n0 (cn0 y) (sn0 y) = x_ald el eb rec nx y d pc lx sx [] h n0 (cn0 y) (sn0 y) kd) (hdn : ∀ (lf : dlf) (sx : List cv) (g : cg), dnx h0 sv mi el eb ins nx tg r1 r2 pc lf sx g = d_ald h0 sv eb kd nx lf sx g) (hi13 : kd = 13 → ins = .iaload) (hi15 : kd = 15 → ins = .baload) (hGS : aGS0 sv el ec GS) (hW : aWd h0 tyt typs) (hHK : aHK h0 tyt GS HK) (h : a_ald h0 typs HK ec eb rec nx y dd ls st fr mem env fx gh ne kd = true) : cTF G h0 n0 cn0 sn0 Q frc y d pc lsc stc g := by
  unfold a_ald at h
  match st, hγ, h with
  | [], _, h => cases h
  | [_], _, h => cases h
  | i :: w :: r, hγ, h =>
    obtain ⟨g1, h⟩ := xcnb h
    obtain ⟨iv, rc1, rfl, hi, hs1⟩ := a_top hγ.gs
    obtain ⟨v, rc, rfl, hv, hr⟩ := a_top hs1
    obtain ⟨z, rfl, hz, hze⟩ := a_int hi (xeqb g1)
    split at h
    · rename_i hw4
      obtain ⟨k, rfl, hk1, hk2⟩ := a_refv hv hw4
      obtain ⟨q, T, w1, w2, w3, w4, w5, w6, w7, w8⟩ := hW k _ hk1
      rw [w2] at h
      obtain ⟨g2, g3⟩ := xcnb h
      obtain ⟨g4, g5⟩ := xand g2
      obtain ⟨g6, g7⟩ := xand g4
      have hb := efit_ok hγ.1.self.1 hγ.1.self.2.1 g5
      rw [hze.self] at hb
      have hb2 : z ≤ (T.2.1 : Int) + -1 := hb.2
      have ez : z = (z.toNat : Int) := by omega
      have hj : z.toNat < q.2.1 := by omega
      obtain ⟨ww, u, u1, u2, u3, u4⟩ := w8 z.toNat hj
      rw [ez]
      refine cT_ald hG hc he hdn w1 ?_ hj (by omega) u1 ?_
      · rw [← w3]
        exact (xor2 g6).imp xeqb (fun q => ⟨xeqb (xand q).1, xleb (xand q).2⟩)
      · exact a_ldn hF hrec hW hHK hγ hd hr (fun τ hτ => ⟨hk2 τ hτ, (hze τ hτ).trans ez⟩) hk1 ⟨q, ww, w1, u1, rfl⟩ w1 hj g3
    · rename_i hw6
      have e := avR_ext hv.self hw6
      subst e
      rw [efrc_eq] at h
      have hne : aC ne ρ (fun τ => ev τ (enor env i.2.2) = z) := fun τ hτ => (enor_ok (hγ.1 τ hτ).1 _).trans (hze τ hτ)
      generalize enor env i.2.2 = n at h hne
      cases hb : Nat.beq w.2.1 0 with
      | true =>
        rw [hb] at h
        simp only [cond_true] at h
        have e0 := xeqb hb
        rw [e0]
        obtain ⟨k13, h'⟩ := xcnb h
        clear h
        have h13 := xeqb k13
        clear k13
        subst h13
        have hins := hi13 rfl
        subst hins
        cases ha : asl gh with
        | none => rw [ha] at h'; cases h'
        | some s =>
          rw [ha] at h'
          obtain ⟨g2, h⟩ := xcnb h'
          obtain ⟨g3, g4⟩ := xand g2
          obtain ⟨x, x1, x2, x3⟩ := asl_ok ha
          have hL := (hGS.2.1 x ρ g x2).mp (hγ.1.self.2.2.2 x x1)
          rw [x3] at hL
          have b1 := elef_ok hγ.1.self.1 hγ.1.self.2.1 2 _ g3
          have b2 := elef_ok hγ.1.self.1 hγ.1.self.2.1 2 _ g4
          rw [escl_ev, hne.self] at b1
          rw [eadc_ev, eadd_ev, esym_ev, hne.self, hL] at b2
          have ez : z = (z.toNat : Int) := by omega
          have hlt : z.toNat < el 0 := by omega
          have h31 := hGS.2.2.1
          have hcI := cI_of (sv z.toNat)
          rw [ez]
          refine cT_aldS hG hc hlt (by omega) ?_
          cases hg : asg env n gh with
          | some zs =>
            rw [hg] at h
            obtain ⟨x', y1, y2, y3, y4⟩ := asg_ok hg
            refine a_n0 hF hrec hγ hd h hγ.gl (fun τ hτ => ⟨avR_mk0 hcI τ _ ?_, hr τ hτ⟩)
            obtain ⟨m, m1, m2⟩ := (hGS.1 x' τ g y2).mp ((hγ.1 τ hτ).2.2.2 x' y1)
            have := eeq_ok (hγ.1 τ hτ).1 y4
            rw [hne τ hτ, m1] at this
            have em : z.toNat = m := by omega
            rw [esym_ev, em, m2, y3]
          | none =>
            rw [hg] at h
            rw [afrs_eq] at h
            refine a_nx hF hrec hγ.2.2.1 hγ.2.2.2 hd h (by omega) (aup_ag ρ ne (sv z.toNat).toInt) (fun τ hτ => ?_) (hγ.gl.mono (by omega) (aup_ag ρ ne _)) (fun τ hτ => ⟨avR_mk0 hcI τ _ (afrs_ev τ hτ), hr.mono (by omega) (aup_ag ρ ne _) τ hτ⟩) (hγ.2.1.imp (fun _ x => x.2.2))
            have hτ2 : aag ne ρ τ := aag.tr (by omega) (aup_ag ρ ne _) hτ
            have hco := hγ.1 τ hτ2
            refine ⟨afrs_ok (hγ.1.imp (fun _ x => x.1)) hcI.1 (by have := hcI.2; omega) τ hτ, hco.2.1, hco.2.2.1, fun x hx => ?_⟩
            rcases List.mem_cons.mp hx with ex | hx
            · rw [ex]
              refine (hGS.1 _ τ g rfl).mpr ⟨z.toNat, ?_, ?_⟩
              · show ev τ n = _
                rw [hne τ hτ2]; omega
              · show _ = τ ne
                rw [hτ ne (by omega), aup_self]
            · exact hco.2.2.2 x hx
      | false =>
        rw [hb] at h
        simp only [cond_false] at h
        split at h
        · rename_i hn
          obtain ⟨g2, h'⟩ := xcnb h
          clear h
          obtain ⟨m1, g8⟩ := xand g2
          obtain ⟨m2, g7⟩ := xand m1
          obtain ⟨m3, g6⟩ := xand m2
          obtain ⟨m4, g5⟩ := xand m3
          obtain ⟨g3, g4⟩ := xand m4
          clear m1 m2 m3 m4 g2
          rw [xfrc_eq] at h'
          have h15 := xeqb g4
          clear g4
          subst h15
          have hins := hi15 rfl
          subst hins
          have e1 : n.1 = z := by
            have := hne.self
            have e2 : ev ρ n = n.1 := by unfold ev; rw [hn]; show _ + 0 = _; omega
            omega
          rw [e1] at g5 g6 g7 g8 h'
          have g5 := zle_iff.mp g5
          have ez : z = (z.toNat : Int) := by omega
          rw [ez]
          have hk24 : w.2.1 = 2 ∨ w.2.1 = 4 := (xor2 g3).imp xeqb xeqb
          have hec := hGS.2.2.2 _ hk24
          rw [hec] at g6
          refine cT_aldT hG hc hk24 (xltb g6) (xltb g7) ?_
          rw [nI_toInt (xltb g8)]
          have hlt := xltb g8
          exact a_n0 hF hrec hγ hd h' hγ.gl (fun τ hτ => ⟨avR_mk0 (by unfold cI; omega) τ _ (evc τ _), hr τ hτ⟩)
        · cases h
    · cases h
theorem a_ast_ok (hG : cW sv cd mi df el eb G) (hF : aFXm FX) (hrec : aSnd G h0 n0 cn0 sn0 Q tyt typs GS FX rec) (hc : cC cd y pc (ins, nx, tg, r1, r2)) (hγ : aGm h0 tyt typs GS FX ρ ls st fr mem env fx gh ne g lsc stc frc) (hd : dd ≤ d) {kd : Nat} (he : ∀ (rec : xF) (lx : List (Nat × xv)) (sx : List xv) (h : xheap), xex mi df el eb rec ins nx tg r1 r2 y d pc lx sx [] h n0 (cn0 y) (sn0 y) = x_ast rec nx y d pc lx sx [] h n0 (cn0 y) (sn0 y) kd) (hdn : ∀ (lf : dlf) (sx : List cv) (g : cg), dnx h0 sv mi el eb ins nx tg r1 r2 pc lf sx g = d_ast kd nx lf sx g) (hkd : kd = 13 ∨ kd = 14 ∨ kd = 15) (hFS : ∀ (ρ : Nat → Int) (ne : Nat) (g : cg) (k j : Nat) (z : Int), FX ρ ne g → wc k j → FX ρ ne (cup g k j z)) (hW : aWd h0 tyt typs) (hHS : aHS h0 tyt GS HS) (hWO : aWOK tyt WOK wc) (h : a_ast typs HS WOK rec nx y dd ls st fr mem env fx gh ne kd = true) : cTF G h0 n0 cn0 sn0 Q frc y d pc lsc stc g := by
  unfold a_ast at h
  match st, hγ, h with
  | [], _, h => cases h
  | [_], _, h => cases h
  | [_, _], _, h => cases h
  | v :: i :: w :: r, hγ, h =>
    obtain ⟨g1, h⟩ := xcnb h
    obtain ⟨g2, g3⟩ := xand g1
    obtain ⟨g4, g5⟩ := xand g2
    obtain ⟨vc, rc0, rfl, hv, hs0⟩ := a_top hγ.gs
    obtain ⟨iv, rc1, rfl, hi, hs1⟩ := a_top hs0
    obtain ⟨wv, rc, rfl, hw, hr⟩ := a_top hs1
    obtain ⟨z, rfl, hz, hze⟩ := a_int hi (xeqb g4)
    obtain ⟨k, rfl, hk1, hk2⟩ := a_refv hw (xeqb g5)
    obtain ⟨q, T, w1, w2, w3, w4, w5, w6, w7, w8⟩ := hW k _ hk1
    rw [w2] at h
    obtain ⟨g6, h⟩ := xcnb h
    obtain ⟨g7, g8⟩ := xand g6
    obtain ⟨g9, g10⟩ := xand g7
    have hb := efit_ok hγ.1.self.1 hγ.1.self.2.1 g8
    rw [hze.self] at hb
    have hb2 : z ≤ (T.2.1 : Int) + -1 := hb.2
    have ez : z = (z.toNat : Int) := by omega
    have hj : z.toNat < q.2.1 := by omega
    obtain ⟨ww, u, u1, u2, u3, u4⟩ := w8 z.toNat hj
    have hT13 : Nat.blt T.1 13 = false := by
      cases hq : Nat.blt T.1 13 with
      | false => rfl
      | true => have := xltb hq; have := xleb g10; omega
    have hu : agt T.2.2.2.2 0 = some u := by
      unfold apl at u2
      rw [hT13] at u2
      exact u2
    rw [hu] at h
    obtain ⟨g11, h⟩ := xcnb h
    have hvt : v.1 = ww.1 := by rw [u3]; exact (xeqb g11).symm
    have hkq : q.1 = kd := by rw [← w3]; exact xeqb g9
    rw [ez]
    cases hk15 : Nat.beq kd 15 with
    | false =>
      rw [hk15] at h
      have hcs : cstv kd vc = vc := by unfold cstv; rw [hk15]; rfl
      have hvw : (kd = 14 ∧ vc.1 = 2 ∧ ww.1 = 2) ∨ ((kd = 13 ∨ kd = 15) ∧ vc.1 = 0 ∧ ww.1 = 0) := by
        rcases hkd with e | e | e
        · subst e
          have e3 : v.1 = 0 := xeqb g3
          obtain ⟨x, rfl, -, -⟩ := a_int hv e3
          exact Or.inr ⟨Or.inl rfl, rfl, by rw [← hvt]; exact e3⟩
        · subst e
          have e3 : v.1 = 2 := xeqb g3
          obtain ⟨x, rfl, -, -⟩ := a_lngv hv e3
          exact Or.inl ⟨rfl, rfl, by rw [← hvt]; exact e3⟩
        · subst e; cases hk15
      refine cT_ast hG hc he hdn w1 hkq hj (by omega) u1 hvw ?_
      rw [hcs]
      exact a_stn hF hFS hrec hW hHS hWO hγ.2.2.1 hγ.2.2.2 hγ.1 hγ.gl (hγ.2.1.imp (fun _ x => x.2.2)) hd hr (fun τ hτ => ⟨hk2 τ hτ, (hze τ hτ).trans ez⟩) hk1 w1 hj u1 hv hvt (hvw.elim (fun x => Or.inr x.2.2) (fun x => Or.inl x.2.2)) h
    | true =>
      rw [hk15] at h
      simp only [cond_true] at h
      have e15 := xeqb hk15
      have e3 : v.1 = 0 := by
        have := xeqb g3
        rw [e15] at this
        exact this
      obtain ⟨x, rfl, hx, hxe⟩ := a_int hv e3
      have hw0 : ww.1 = 0 := by rw [← hvt]; exact e3
      have hcs : cstv kd (0, x) = (0, (i32 x).toInt8.toInt32.toInt) := by unfold cstv; rw [hk15]; rfl
      refine cT_ast hG hc he hdn w1 hkq hj (by omega) u1 (Or.inr ⟨Or.inr e15, rfl, hw0⟩) ?_
      rw [hcs]
      have hin := i2b_in (i32 x)
      obtain ⟨v', env', ne', ρ', q1, q2, q3, q4, q5, q6⟩ := aar_ok2 (v0 := (0, (i32 x).toInt8.toInt32.toInt)) hγ.1 hin (fun τ hτ b1 b2 => by
        rw [hxe τ hτ] at b1 b2 ⊢
        exact (i2b_id b1 b2).symm) (avR_mk0 (cI_of _)) h
      exact a_stn (v0 := (0, (i32 x).toInt8.toInt32.toInt)) hF hFS hrec hW hHS hWO hγ.2.2.1 (hF _ _ _ _ _ hγ.2.2.2 q2 q3) q4 (hγ.gl.mono q2 q3) ((hγ.2.1.imp (fun _ x => x.2.2)).mono q2 q3) hd (hr.mono q2 q3) (fun τ hτ => ⟨hk2.mono q2 q3 τ hτ, (hze.mono q2 q3 τ hτ).trans ez⟩) hk1 w1 hj u1 q5 (by rw [q6, hw0]) (Or.inl hw0) q1
end Snd5
end
section
/-! The step is right: copies, calls, answers -/
section Snd6
variable {sv : Nat → Int32} {cd : xcd} {mi : xmi} {df : xdf} {el : Nat → Nat} {eb : Nat → List Nat} {G : xG} {h0 : xheap} {n0 : Nat} {cn0 sn0 : Nat → Nat} {Q : cg → Option cv → Prop}
variable {tyt : Lean.RArray (Nat × Nat)} {typs : Lean.RArray (Nat × aty)} {GS : gho → (Nat → Int) → cg → Prop} {FX : (Nat → Int) → Nat → cg → Prop} {wc : Nat → Nat → Prop}
variable {HK : aenv → List ae → List am → List gho → Nat → ae → ae → Int × Int → Int × Int} {HS : aenv → List ae → List am → List gho → Nat → ae → ae → av → List gho} {WOK : aenv → List ae → Nat → ae → ae → Bool} {WOA : aenv → List ae → Nat → ae → Bool} {HA : aenv → List ae → List am → List gho → Nat → ae → Nat → ae → ae → ae → ae → List gho} {inl : Nat → Bool}
variable {SM : Nat → Nat → List av → List am → aenv → List ae → List gho → Nat → (Option av → List am → aenv → List ae → List gho → Nat → Bool) → Bool} {RT : Option av → List am → aenv → List ae → List gho → Nat → Bool}
variable {rec : aF} {y d dd pc nx tg r1 r2 : Nat} {ins : Instr} {ls : List (Nat × av)} {st : List av} {fr : List afr} {mem : List am} {env : aenv} {fx : List ae} {gh : List gho} {ne : Nat} {ρ : Nat → Int} {g : cg} {lsc : List (Nat × cv)} {stc : List cv} {frc : List cfr}
def aHA (h0 : xheap) (tyt : Lean.RArray (Nat × Nat)) (GS : gho → (Nat → Int) → cg → Prop) (HA : aenv → List ae → List am → List gho → Nat → ae → Nat → ae → ae → ae → ae → List gho) : Prop := ∀ (env : aenv) (fx : List ae) (mem : List am) (gh : List gho) (g : cg) (ρ : Nat → Int) (ta : Nat) (ca : ae) (tb : Nat) (cb sp dp m : ae) (ka kb s d n : Nat), coR h0 tyt GS env fx mem gh g ρ → ev ρ ca = (ka : Int) → ev ρ cb = (kb : Int) → xg tyt ka = some ta → xg tyt kb = some tb → ev ρ sp = (s : Int) → ev ρ dp = (d : Int) → ev ρ m = (n : Int) → ghR GS (HA env fx mem gh ta ca tb cb sp dp m) ρ (ccp g ka kb s d n)
def aWOA (tyt : Lean.RArray (Nat × Nat)) (WOA : aenv → List ae → Nat → ae → Bool) (wc : Nat → Nat → Prop) : Prop := ∀ (env : aenv) (fx : List ae) (t : Nat) (c : ae) (ρ : Nat → Int) (k : Nat), WOA env fx t c = true → envR env ρ → fxR fx ρ → ev ρ c = (k : Int) → xg tyt k = some t → ∀ j, wc k j
theorem a_cpy_ok (hG : cW sv cd mi df el eb G) (hF : aFXm FX) (hrec : aSnd G h0 n0 cn0 sn0 Q tyt typs GS FX rec) (hγ : aGm h0 tyt typs GS FX ρ ls st fr mem env fx gh ne g lsc stc frc) (hd : dd ≤ d) {i : Nat} (h00 : cH0 h0) (hFC : ∀ (ρ : Nat → Int) (ne : Nat) (g : cg) (ka kb s d n : Nat), FX ρ ne g → (∀ j, wc kb j) → FX ρ ne (ccp g ka kb s d n)) (hW : aWd h0 tyt typs) (hHA : aHA h0 tyt GS HA) (hWA : aWOA tyt WOA wc) (hc : cC cd y pc (.invokestatic i, nx, tg, r1, r2)) (h8 : r2 = 8) (h : a_cpy typs WOA HA rec nx y dd ls st fr mem env fx gh ne = true) : cTF G h0 n0 cn0 sn0 Q frc y d pc lsc stc g := by
  unfold a_cpy at h
  match st, hγ, h with
  | [], _, h => cases h
  | [_], _, h => cases h
  | [_, _], _, h => cases h
  | [_, _, _], _, h => cases h
  | [_, _, _, _], _, h => cases h
  | m :: dp :: b :: sp :: a :: r, hγ, h =>
    obtain ⟨g1, h⟩ := xcnb h
    obtain ⟨g1, t7⟩ := xand g1
    obtain ⟨g1, t6⟩ := xand g1
    obtain ⟨g1, t5⟩ := xand g1
    obtain ⟨g1, t4⟩ := xand g1
    obtain ⟨g1, t3⟩ := xand g1
    obtain ⟨t1, t2⟩ := xand g1
    obtain ⟨mv, s1, rfl, hm, hs1⟩ := a_top hγ.gs
    obtain ⟨dv, s2, rfl, hdp, hs2⟩ := a_top hs1
    obtain ⟨bv, s3, rfl, hb, hs3⟩ := a_top hs2
    obtain ⟨spv, s4, rfl, hsp, hs4⟩ := a_top hs3
    obtain ⟨av', rc, rfl, ha, hr⟩ := a_top hs4
    obtain ⟨zm, rfl, hzm, hzme⟩ := a_int hm (xeqb t1)
    obtain ⟨zd, rfl, hzd, hzde⟩ := a_int hdp (xeqb t2)
    obtain ⟨kb, rfl, hkb1, hkb2⟩ := a_refv hb (xeqb t3)
    obtain ⟨zs, rfl, hzs, hzse⟩ := a_int hsp (xeqb t4)
    obtain ⟨ka, rfl, hka1, hka2⟩ := a_refv ha (xeqb t5)
    obtain ⟨qa, Ta, a1, a2, a3, a4, a5, a6, a7, a8⟩ := hW ka _ hka1
    obtain ⟨qb, Tb, b1, b2, b3, b4, b5, b6, b7, b8⟩ := hW kb _ hkb1
    rw [a2] at h
    dsimp only at h
    rw [b2] at h
    obtain ⟨g1, h⟩ := xcnb h
    obtain ⟨g1, c9⟩ := xand g1
    obtain ⟨g1, c8⟩ := xand g1
    obtain ⟨g1, c7⟩ := xand g1
    obtain ⟨g1, c6⟩ := xand g1
    obtain ⟨g1, c5⟩ := xand g1
    obtain ⟨g1, c4⟩ := xand g1
    obtain ⟨g1, c3⟩ := xand g1
    obtain ⟨c1, c2⟩ := xand g1
    have hE := hγ.1.self.1
    have hX := hγ.1.self.2.1
    have e3 := elef_ok hE hX 2 _ c3
    have e4 := elef_ok hE hX 2 _ c4
    have e5 := elef_ok hE hX 2 _ c5
    have e6 := elef_ok hE hX 2 _ c6
    have e7 := elef_ok hE hX 2 _ c7
    rw [escl_ev, hzme.self] at e3
    rw [escl_ev, hzde.self] at e4
    rw [escl_ev, hzse.self] at e5
    rw [eadc_ev, eadd_ev, hzse.self, hzme.self] at e6
    rw [eadc_ev, eadd_ev, hzde.self, hzme.self] at e7
    have e6 : zs + 1 * zm + -(Ta.2.1 : Int) ≤ 0 := e6
    have e7 : zd + 1 * zm + -(Tb.2.1 : Int) ≤ 0 := e7
    have em : zm = (zm.toNat : Int) := by omega
    have ed : zd = (zd.toNat : Int) := by omega
    have es : zs = (zs.toNat : Int) := by omega
    have hkind : qa.1 = 13 ∨ qa.1 = 14 := by rw [← a3]; exact (xor2 c1).imp xeqb xeqb
    have hkind2 : qb.1 = qa.1 := by rw [← a3, ← b3]; exact xeqb c2
    have hwa := hWA env fx _ _ ρ kb c8 hE hX hkb2.self hkb1
    rw [em, ed, es]
    refine cT_cpy hG h00 hc h8 a1 b1 hkind hkind2 (by omega) (by omega) (by rw [stR_wds hr.self]; exact xleb t6) (by have := xleb t7; omega) ?_
    have hT13a : Nat.blt Ta.1 13 = false := by
      cases hq : Nat.blt Ta.1 13 with
      | false => rfl
      | true => have := xltb hq; rw [a3] at this; omega
    have hInv : aInv tyt typs (ccp g ka kb zs.toNat zd.toNat zm.toNat) := by
      intro k' t' T' ht' hT'
      have hold := hγ.2.2.1 k' t' T' ht' hT'
      by_cases hk : k' = kb
      · subst hk
        have x1 : t' = b.2.1 := Option.some.inj (ht'.symm.trans hkb1)
        subst x1
        have x2 : T' = Tb := Option.some.inj (hT'.symm.trans b2)
        subst x2
        have hsrc := hγ.2.2.1 ka _ Ta hka1 a2
        refine ⟨fun B hB c hc' j' q1 q2 q3 => ?_, fun j' u hj' hu' => ?_⟩
        · unfold ccp
          split
          · rename_i hin
            have c9' := List.all_eq_true.mp (List.all_eq_true.mp c9 B hB) c hc'
            obtain ⟨A, hA, c9'⟩ := List.any_eq_true.mp c9'
            obtain ⟨l1, c9'⟩ := xcnb c9'
            obtain ⟨l2, c9'⟩ := xcnb c9'
            obtain ⟨c2', hc2', c9'⟩ := List.any_eq_true.mp c9'
            obtain ⟨l3, c9'⟩ := xcnb c9'
            obtain ⟨l4, c9'⟩ := xcnb c9'
            obtain ⟨l5, c9'⟩ := xcnb c9'
            obtain ⟨l6, l7⟩ := xcnb c9'
            have l1 := zle_iff.mp l1
            have l2 : (Ta.2.1 : Int) ≤ A.2.1 + 1 := zle_iff.mp l2
            have l3 := zle_iff.mp l3
            have l4 : (Ta.2.1 : Int) ≤ c2'.2.1 + 1 := zle_iff.mp l4
            have l5 := zeq_iff.mp l5
            have l6 := zle_iff.mp l6
            have l7 := zle_iff.mp l7
            have := hsrc.1 A hA c2' hc2' (zs.toNat + (j' - zd.toNat)) (by omega) (by omega) ⟨by omega, by omega, by rw [l5]; exact Int.emod_one _⟩
            omega
          · exact hold.1 B hB c hc' j' q1 q2 q3
        · unfold ccp
          split
          · rename_i hin
            obtain ⟨w1, u1, y1, y2, y3, y4⟩ := a8 (zs.toNat + (j' - zd.toNat)) (by omega)
            obtain ⟨w2, u2, z1, z2, z3, z4⟩ := b8 j' (by omega)
            have e8 : u2 = u := Option.some.inj (z2.symm.trans hu')
            subst e8
            have hr1 := hsrc.2 (zs.toNat + (j' - zd.toNat)) u1 (by omega) y2
            obtain ⟨-, ka0⟩ := h00 ka qa a1
            obtain ⟨-, kb0⟩ := h00 k' qb b1
            obtain ⟨w3, y5, y6, y7, -⟩ := ka0 (zs.toNat + (j' - zd.toNat)) (by omega)
            obtain ⟨w4, z5, z6, z7, -⟩ := kb0 j' (by omega)
            have e9 : w3 = w1 := Option.some.inj (y5.symm.trans y1)
            have e10 : w4 = w2 := Option.some.inj (z5.symm.trans z1)
            subst e9; subst e10
            refine ⟨fun hz => hr1.1 ?_, fun hz => hr1.2 ?_⟩
            · rcases hkind with q | q
              · rw [← y3]; exact y6 (Or.inl q)
              · have := z7 (by rw [hkind2]; exact q)
                rw [z3, hz] at this; cases this
            · rcases hkind with q | q
              · have := z6 (Or.inl (by rw [hkind2]; exact q))
                rw [z3, hz] at this; cases this
              · rw [← y3]; exact y7 q
          · exact hold.2 j' u hj' hu'
      · have e : ∀ j' : Nat, ccp g ka kb zs.toNat zd.toNat zm.toNat k' j' = g k' j' := fun j' => by unfold ccp; rw [if_neg (fun z => hk z.1)]
        refine ⟨fun B hB c hc' j' q1 q2 q3 => ?_, fun j' u hj' hu' => ?_⟩
        · rw [e]; exact hold.1 B hB c hc' j' q1 q2 q3
        · rw [e]; exact hold.2 j' u hj' hu'
    refine a_nx hF hrec hInv (hFC _ _ _ _ _ _ _ _ hγ.2.2.2 hwa) hd h (Nat.le_refl _) (aag.rf _ _) (fun τ hτ => ?_) hγ.gl hr (hγ.2.1.imp (fun _ x => x.2.2))
    have hco := hγ.1 τ hτ
    refine ⟨hco.1, hco.2.1, fun x hx => ?_, hHA env fx mem gh g τ _ _ _ _ _ _ _ ka kb _ _ _ hco (hka2 τ hτ) (hkb2 τ hτ) hka1 hkb1 ((hzse τ hτ).trans es) ((hzde τ hτ).trans ed) ((hzme τ hτ).trans em)⟩
    obtain ⟨x1, x2⟩ := List.mem_filter.mp hx
    obtain ⟨k', j', v, y1, y2, y3, ⟨q, w, z1, z2, z3⟩, y5⟩ := hco.2.2.1 x x1
    have hkne : k' ≠ kb := by
      intro e
      subst e
      have e2 : x.1 = b.2.1 := Option.some.inj (y3.symm.trans hkb1)
      rw [xnb1 e2] at x2
      exact absurd (y1.trans (hkb2 τ hτ).symm) (ene_ok hco.1 x2)
    refine ⟨k', j', v, y1, y2, y3, ⟨q, w, z1, z2, ?_⟩, y5⟩
    unfold ccp
    rw [if_neg (fun z => hkne z.1)]
    exact z3
/-- what is known of a method that isn't walked into -/
def aSM (G : xG) (h0 : xheap) (n0 : Nat) (tyt : Lean.RArray (Nat × Nat)) (typs : Lean.RArray (Nat × aty)) (GS : gho → (Nat → Int) → cg → Prop) (FX : (Nat → Int) → Nat → cg → Prop) (SM : Nat → Nat → List av → List am → aenv → List ae → List gho → Nat → (Option av → List am → aenv → List ae → List gho → Nat → Bool) → Bool) : Prop :=
  ∀ (z dd : Nat) (args : List av) (mem : List am) (env : aenv) (fx : List ae) (gh : List gho) (ne : Nat) (k : Option av → List am → aenv → List ae → List gho → Nat → Bool), SM z dd args mem env fx gh ne k = true →
    ∀ (ρ : Nat → Int) (g : cg) (argc : List cv) (d : Nat), aC ne ρ (coR h0 tyt GS env fx mem gh g) → aC ne ρ (fun τ => stR tyt τ args argc) → aInv tyt typs g → FX ρ ne g → dd ≤ d →
      cT G h0 n0 z d 0 (carg 0 argc) [] g 0 0 (fun g' rv => ∃ (rva : Option av) (mem' : List am) (env' : aenv) (fx' : List ae) (gh' : List gho) (ne' : Nat) (ρ' : Nat → Int), k rva mem' env' fx' gh' ne' = true ∧ ne ≤ ne' ∧ aag ne ρ ρ' ∧ aC ne' ρ' (coR h0 tyt GS env' fx' mem' gh' g') ∧ aInv tyt typs g' ∧ FX ρ' ne' g' ∧ (match rva, rv with
        | none, none => True
        | some a, some v => aC ne' ρ' (fun τ => avR tyt τ a v)
        | _, _ => False))
theorem a_call_ok (hG : cW sv cd mi df el eb G) (hF : aFXm FX) (hrec : aSnd G h0 n0 cn0 sn0 Q tyt typs GS FX rec) (hc : cC cd y pc (ins, nx, tg, r1, r2)) (hγ : aGm h0 tyt typs GS FX ρ ls st fr mem env fx gh ne g lsc stc frc) (hd : dd ≤ d) {inst virt : Bool} (hmi : ∀ (y : Nat) (q : Nat × Nat × Nat × Nat × Nat × Nat), xg mi y = some q → cn0 y ≤ q.1 ∧ sn0 y ≤ q.2.1) (hmy : ∃ q, xg mi y = some q) (hvi : inst = true → virt = true) (he : ∀ (d : Nat) (rec : xF) (lx : List (Nat × xv)) (sx : List xv) (h : xheap), xex mi df el eb rec ins nx tg r1 r2 y d pc lx sx [] h n0 (cn0 y) (sn0 y) = x_call mi rec nx r1 y d lx sx [] h n0 (cn0 y) (sn0 y) inst virt) (hdn : ∀ (lf : dlf) (sx : List cv) (g : cg), dnx h0 sv mi el eb ins nx tg r1 r2 pc lf sx g = d_call mi r1 inst sx) (hW : aWd h0 tyt typs) (hSM : aSM G h0 n0 tyt typs GS FX SM) (h : a_call typs mi inl SM rec nx r1 y dd ls st fr mem env fx gh ne inst = true) : cTF G h0 n0 cn0 sn0 Q frc y d pc lsc stc g := by
  unfold a_call at h
  cases hu : xg mi r1 with
  | none => rw [hu] at h; cases h
  | some u =>
    rw [hu] at h
    dsimp only at h
    cases hp : cpop (cond inst (u.2.2.1 + 1) u.2.2.1) [] st with
    | none => rw [hp] at h; cases h
    | some q =>
      rw [hp] at h
      dsimp only at h
      obtain ⟨qc, p1, -, -⟩ := cpop_R (tyt := tyt) (τ := ρ) _ (acc := []) (accc := []) trivial hγ.gs.self hp
      have pR : aC ne ρ (fun τ => stR tyt τ q.1 qc.1 ∧ stR tyt τ q.2 qc.2) := fun τ hτ => by
        obtain ⟨qc', p2, p3, p4⟩ := cpop_R (tyt := tyt) (τ := τ) _ (acc := []) (accc := []) trivial (hγ.gs τ hτ) hp
        have : qc' = qc := Option.some.inj (p2.symm.trans p1)
        rw [← this]
        exact ⟨p3, p4⟩
      obtain ⟨ac, rcc⟩ := qc
      obtain ⟨aa, ra⟩ := q
      have hgo : a_go mi inl SM rec nx y dd ls fr mem env fx gh ne r1 aa ra = true ∧ crcv h0 inst virt u.2.2.2.1 ac ∧ (ac = [] → inst = false) := by
        cases aa with
        | nil =>
          dsimp only at h
          have e := stR_nil (pR.self.1)
          have e : ac = [] := e
          cases hi : inst with
          | true => rw [hi] at h; cases h
          | false => rw [hi] at h; exact ⟨h, Or.inl rfl, fun _ => rfl⟩
        | cons w l =>
          dsimp only at h
          obtain ⟨h1, h2⟩ := xcnb h
          obtain ⟨v, m, e, hv, -⟩ := stR_cons pR.self.1
          have e : ac = v :: m := e
          subst e
          refine ⟨h2, ?_, fun z => by cases z⟩
          cases hi : inst with
          | false => exact Or.inl rfl
          | true =>
            rw [hi] at h1
            have h1 : arcv typs u.2.2.2.1 w = true := h1
            refine Or.inr ⟨v, m, rfl, ?_⟩
            unfold arcv at h1
            split at h1
            · rename_i hw4
              obtain ⟨k, e1, e2, e3⟩ := avR_ref hv hw4
              obtain ⟨q, T, w1, w2, w3, -⟩ := hW k _ e3
              rw [w2] at h1
              obtain ⟨l1, l2⟩ := xand h1
              exact Or.inl ⟨k, q, e1, w1, by rw [← w3]; exact xeqb l1, xltb l2⟩
            · rename_i hw6
              obtain ⟨l1, l2⟩ := xand h1
              have e1 := avR_ext hv hw6
              refine Or.inr ⟨hvi hi, ?_, xeqb l2⟩
              rcases xor2 l1 with q | q
              · left; rw [e1, xeqb q]; rfl
              · right; rw [e1, xeqb q]; rfl
            · cases h1
      obtain ⟨hgo, hrc, hie⟩ := hgo
      unfold a_go at hgo
      cases dd with
      | zero => cases hgo
      | succ d' =>
        dsimp only at hgo
        rw [hu] at hgo
        obtain ⟨k1, k2⟩ := xcnb hgo
        obtain ⟨k3, k4⟩ := xand k1
        obtain ⟨k5, k6⟩ := xand k3
        obtain ⟨k7, k8⟩ := xand k5
        obtain ⟨d2, rfl⟩ : ∃ d2, d = d2 + 1 := ⟨d - 1, by omega⟩
        obtain ⟨qy, hqy⟩ := hmy
        obtain ⟨m1, m2⟩ := hmi y qy hqy
        obtain ⟨m3, m4⟩ := hmi r1 u hu
        have z1 : cn0 r1 = 0 := by have := xeqb k6; omega
        have z2 : sn0 r1 = 0 := by have := xeqb k4; omega
        have hw8 : cwds rcc ≤ 8 := by rw [stR_wds pR.self.2]; exact xleb k7
        have hwa : cwds ac ≤ u.2.2.2.2.2 := by rw [stR_wds pR.self.1]; exact xleb k8
        have hR := pR.imp (fun _ x => x.2)
        have hA := pR.imp (fun _ x => x.1)
        have hfr := hγ.2.1.imp (fun _ x => x.2.2)
        cases hin : inl r1 with
        | true =>
          rw [hin] at k2
          refine cT_call (Q1 := cQ G h0 n0 cn0 sn0 Q ((y, nx, lsc, rcc) :: frc) d2) hG hc (he (d2 + 1)) hdn hqy hu p1 hrc hw8 hwa (xeqb k6) (xeqb k4) m1 m2 hie ?_ (fun g1 rv h1 => h1)
          have := hrec _ _ _ _ _ _ _ _ _ _ _ k2 ρ g (carg 0 ac) [] ((y, nx, lsc, rcc) :: frc) d2 ⟨hγ.1, fun τ hτ => ⟨stR_arg 0 (hA τ hτ), trivial, rfl, rfl, hγ.gl τ hτ, hR τ hτ, hfr τ hτ⟩, hγ.2.2.1, hγ.2.2.2⟩ (by omega)
          unfold cTF at this
          rw [z1, z2] at this
          exact this
        | false =>
          rw [hin] at k2
          have hsum := hSM r1 d' aa mem env fx gh ne _ k2 ρ g ac d2 hγ.1 hA hγ.2.2.1 hγ.2.2.2 (by omega)
          refine cT_call hG hc (he (d2 + 1)) hdn hqy hu p1 hrc hw8 hwa (xeqb k6) (xeqb k4) m1 m2 hie hsum (fun g1 rv h1 => ?_)
          obtain ⟨rva, mem', env', fx', gh', ne', ρ', q1, q2, q3, q4, q5, q6, q7⟩ := h1
          refine hrec _ _ _ _ _ _ _ _ _ _ _ q1 ρ' g1 lsc (cpsh rv rcc) frc (d2 + 1) ⟨q4, fun τ hτ => ⟨hγ.gl.mono q2 q3 τ hτ, ?_, hfr.mono q2 q3 τ hτ⟩, q5, q6⟩ (by omega)
          cases rva with
          | none =>
            cases rv with
            | none => exact hR.mono q2 q3 τ hτ
            | some v => exact q7.elim
          | some a =>
            cases rv with
            | none => exact q7.elim
            | some v => exact ⟨q7 τ hτ, hR.mono q2 q3 τ hτ⟩
/-- the end of the method that is checked -/
def aRT (h0 : xheap) (tyt : Lean.RArray (Nat × Nat)) (typs : Lean.RArray (Nat × aty)) (GS : gho → (Nat → Int) → cg → Prop) (FX : (Nat → Int) → Nat → cg → Prop) (Q : cg → Option cv → Prop) (RT : Option av → List am → aenv → List ae → List gho → Nat → Bool) : Prop :=
  ∀ (rva : Option av) (mem : List am) (env : aenv) (fx : List ae) (gh : List gho) (ne : Nat), RT rva mem env fx gh ne = true → ∀ (ρ : Nat → Int) (g : cg) (rv : Option cv), aC ne ρ (coR h0 tyt GS env fx mem gh g) → aInv tyt typs g → FX ρ ne g → (match rva, rv with
        | none, none => True
        | some a, some v => aC ne ρ (fun τ => avR tyt τ a v)
        | _, _ => False) → Q g rv
/-- an answer: to the frame below, or at the end -/
theorem a_retv (hF : aFXm FX) (hrec : aSnd G h0 n0 cn0 sn0 Q tyt typs GS FX rec) (hRT : aRT h0 tyt typs GS FX Q RT) (hγ : aGm h0 tyt typs GS FX ρ ls st fr mem env fx gh ne g lsc stc frc) (hd : dd ≤ d) {rva : Option av} {rv : Option cv} (hv : match rva, rv with
        | none, none => True
        | some a, some v => aC ne ρ (fun τ => avR tyt τ a v)
        | _, _ => False) (h : a_ret RT rec dd fr mem env fx gh ne rva = true) : cQ G h0 n0 cn0 sn0 Q frc d g rv := by
  have hfr := hγ.2.1.imp (fun _ x => x.2.2)
  unfold a_ret at h
  cases fr with
  | nil =>
    dsimp only at h
    cases frc with
    | cons _ _ => exact (hfr.self).elim
    | nil => exact hRT rva mem env fx gh ne h ρ g rv hγ.1 hγ.2.2.1 hγ.2.2.2 hv
  | cons q l =>
    dsimp only at h
    cases frc with
    | nil => exact (hfr.self).elim
    | cons qc lc =>
      obtain ⟨y', nx', ls', st'⟩ := qc
      obtain ⟨f1, f2, -, -, -⟩ := hfr.self
      have f1 : y' = q.1 := f1
      have f2 : nx' = q.2.1 := f2
      subst f1; subst f2
      refine hrec _ _ _ _ _ _ _ _ _ _ _ h ρ g ls' (cpsh rv st') lc (d + 1) ⟨hγ.1, fun τ hτ => ⟨(hfr τ hτ).2.2.1, ?_, (hfr τ hτ).2.2.2.2⟩, hγ.2.2.1, hγ.2.2.2⟩ (by omega)
      cases rva with
      | none =>
        cases rv with
        | none => exact (hfr τ hτ).2.2.2.1
        | some v => exact hv.elim
      | some a =>
        cases rv with
        | none => exact hv.elim
        | some v => exact ⟨hv τ hτ, (hfr τ hτ).2.2.2.1⟩
theorem a_vret_ok (hG : cW sv cd mi df el eb G) (hF : aFXm FX) (hrec : aSnd G h0 n0 cn0 sn0 Q tyt typs GS FX rec) (hγ : aGm h0 tyt typs GS FX ρ ls st fr mem env fx gh ne g lsc stc frc) (hd : dd ≤ d) (hRT : aRT h0 tyt typs GS FX Q RT) (hc : cC cd y pc (.return_, nx, tg, r1, r2)) (h : a_vret mi RT rec y dd st fr mem env fx gh ne = true) : cTF G h0 n0 cn0 sn0 Q frc y d pc lsc stc g := by
  unfold a_vret at h
  cases hq : xg mi y with
  | none => rw [hq] at h; cases h
  | some q =>
    rw [hq] at h
    dsimp only at h
    split at h
    · rename_i h0'
      have e := stR_nil hγ.gs.self
      subst e
      exact cT_ret hG hc hq h0' (a_retv (rva := none) (rv := none) hF hrec hRT hγ hd trivial h)
    · cases h
theorem a_iret_ok (hG : cW sv cd mi df el eb G) (hF : aFXm FX) (hrec : aSnd G h0 n0 cn0 sn0 Q tyt typs GS FX rec) (hγ : aGm h0 tyt typs GS FX ρ ls st fr mem env fx gh ne g lsc stc frc) (hd : dd ≤ d) (hRT : aRT h0 tyt typs GS FX Q RT) (hc : cC cd y pc (.ireturn, nx, tg, r1, r2)) (h : a_iret mi RT rec y dd st fr mem env fx gh ne = true) : cTF G h0 n0 cn0 sn0 Q frc y d pc lsc stc g := by
  unfold a_iret at h
  cases hq : xg mi y with
  | none => rw [hq] at h; cases h
  | some q =>
    rw [hq] at h
    dsimp only at h
    split at h
    · rename_i w
      obtain ⟨h1, h2⟩ := xcnb h
      obtain ⟨h3, h4⟩ := xand h1
      obtain ⟨v, rc, rfl, hv, hr⟩ := a_top hγ.gs
      have e := stR_nil hr.self
      subst e
      obtain ⟨z, rfl, hz, hze⟩ := a_int hv (xeqb h3)
      refine cT_iret hG hc hq rfl ?_ (a_retv (rva := some w) (rv := some (0, z)) hF hrec hRT hγ hd hv h2)
      have rng : ∀ n : Int, n < 4294967295 → efit env fx w.2.2 0 n = true → c32 z = z.toNat ∧ z ≤ n := fun n hn hf => by
        have := efit_ok hγ.1.self.1 hγ.1.self.2.1 hf
        rw [hze.self] at this
        exact ⟨c32_nat this.1 (by omega), this.2⟩
      unfold arok at h4
      split at h4
      · rename_i e; rw [e]; rfl
      · rename_i e
        obtain ⟨r1', r2'⟩ := rng 1 (by omega) h4
        rw [e]
        show (Nat.beq 0 0 && Nat.ble (c32 z) 1) = true
        rw [r1', xle1 (by omega)]; rfl
      · rename_i e
        obtain ⟨r1', r2'⟩ := rng 65535 (by omega) h4
        rw [e]
        show (Nat.beq 0 0 && Nat.blt (c32 z) 65536) = true
        rw [r1', xlt1 (by omega)]; rfl
      · rename_i e
        obtain ⟨r1', r2'⟩ := rng 127 (by omega) h4
        rw [e]
        show (Nat.beq 0 0 && Nat.blt (c32 z) 128) = true
        rw [r1', xlt1 (by omega)]; rfl
      · cases h4
    · cases h
theorem a_lret_ok (hG : cW sv cd mi df el eb G) (hF : aFXm FX) (hrec : aSnd G h0 n0 cn0 sn0 Q tyt typs GS FX rec) (hγ : aGm h0 tyt typs GS FX ρ ls st fr mem env fx gh ne g lsc stc frc) (hd : dd ≤ d) (hRT : aRT h0 tyt typs GS FX Q RT) (hc : cC cd y pc (.lreturn, nx, tg, r1, r2)) (h : a_lret mi RT rec y dd st fr mem env fx gh ne = true) : cTF G h0 n0 cn0 sn0 Q frc y d pc lsc stc g := by
  unfold a_lret at h
  cases hq : xg mi y with
  | none => rw [hq] at h; cases h
  | some q =>
    rw [hq] at h
    dsimp only at h
    split at h
    · rename_i w
      obtain ⟨h1, h2⟩ := xcnb h
      obtain ⟨h3, h4⟩ := xand h1
      obtain ⟨v, rc, rfl, hv, hr⟩ := a_top hγ.gs
      have e := stR_nil hr.self
      subst e
      obtain ⟨z, rfl, hz, hze⟩ := a_lngv hv (xeqb h3)
      exact cT_lret hG hc hq (xeqb h4) rfl (a_retv (rva := some w) (rv := some (2, z)) hF hrec hRT hγ hd hv h2)
    · cases h
end Snd6
end
section
/-! One instruction, whichever it is; splits; runs -/
section Exe
variable (h0 : xheap) (tyt : Lean.RArray (Nat × Nat)) (typs : Lean.RArray (Nat × aty)) (HK : aenv → List ae → List am → List gho → Nat → ae → ae → Int × Int → Int × Int) (HS : aenv → List ae → List am → List gho → Nat → ae → ae → av → List gho) (WOK : aenv → List ae → Nat → ae → ae → Bool) (WOA : aenv → List ae → Nat → ae → Bool)
variable (HA : aenv → List ae → List am → List gho → Nat → ae → Nat → ae → ae → ae → ae → List gho)
variable (cd : xcd) (mi : xmi) (el : Nat → Nat) (eb : Nat → List Nat) (inl : Nat → Bool)
variable (SM : Nat → Nat → List av → List am → aenv → List ae → List gho → Nat → (Option av → List am → aenv → List ae → List gho → Nat → Bool) → Bool) (RT : Option av → List am → aenv → List ae → List gho → Nat → Bool)
variable (fl : Nat → Nat → Nat) (spl : Nat → Nat → Option (Nat × Nat × Nat × Nat × List Int)) (y0 : Nat) (ct : Nat → Bool) (CU : Nat → Nat → List (Nat × av) → List av → List am → aenv → List ae → List gho → Nat → Bool)
noncomputable def aexe (rec : aF) (ins : Instr) (nx tg r1 r2 y dd pc : Nat) (ls : List (Nat × av)) (st : List av) (fr : List afr) (mem : List am) (env : aenv) (fx : List ae) (gh : List gho) (ne : Nat) : Bool :=
  match ins with
  | .iconst _ => cond (Nat.blt r1 4294967296) (a_psh rec nx y dd ls st fr mem env fx gh ne (sI r1)) false
  | .bipush _ => cond (Nat.blt r1 4294967296) (a_psh rec nx y dd ls st fr mem env fx gh ne (sI r1)) false
  | .sipush _ => cond (Nat.blt r1 4294967296) (a_psh rec nx y dd ls st fr mem env fx gh ne (sI r1)) false
  | .ldc_w _ => cond (Nat.blt r1 4294967296) (a_psh rec nx y dd ls st fr mem env fx gh ne (sI r1)) false
  | .ldc _ => cond (Nat.beq r2 0) (cond (Nat.blt r1 4294967296) (a_psh rec nx y dd ls st fr mem env fx gh ne (sI r1)) false) (cond (Nat.beq r2 1) (rec y dd nx ls ((6, 1, (0, [])) :: st) fr mem env fx gh ne) (cond (Nat.beq r2 2) (rec y dd nx ls ((6, 3, (0, [])) :: st) fr mem env fx gh ne) false))
  | .lconst _ => cond (Nat.blt r1 18446744073709551616) (a_pshL rec nx y dd ls st fr mem env fx gh ne (sL r1)) false
  | .ldc2_w _ => cond (Nat.blt r1 18446744073709551616) (a_pshL rec nx y dd ls st fr mem env fx gh ne (sL r1)) false
  | .aconst_null => rec y dd nx ls ((5, 0, (0, [])) :: st) fr mem env fx gh ne
  | .iload _ => a_ld rec nx r1 y dd ls st fr mem env fx gh ne 0 0
  | .iload_n _ => a_ld rec nx r1 y dd ls st fr mem env fx gh ne 0 0
  | .lload _ => a_ld rec nx r1 y dd ls st fr mem env fx gh ne 1 1
  | .lload_n _ => a_ld rec nx r1 y dd ls st fr mem env fx gh ne 1 1
  | .aload _ => a_ld rec nx r1 y dd ls st fr mem env fx gh ne 2 3
  | .aload_n _ => a_ld rec nx r1 y dd ls st fr mem env fx gh ne 2 3
  | .istore _ => a_st rec nx r1 y dd ls st fr mem env fx gh ne 0 0 xk1
  | .istore_n _ => a_st rec nx r1 y dd ls st fr mem env fx gh ne 0 0 xk1
  | .lstore _ => a_st rec nx r1 y dd ls st fr mem env fx gh ne 1 1 xk2
  | .lstore_n _ => a_st rec nx r1 y dd ls st fr mem env fx gh ne 1 1 xk2
  | .astore _ => a_st rec nx r1 y dd ls st fr mem env fx gh ne 2 2 xk1
  | .astore_n _ => a_st rec nx r1 y dd ls st fr mem env fx gh ne 2 2 xk1
  | .iinc _ _ => a_inc rec nx r1 r2 y dd ls st fr mem env fx gh ne
  | .iadd => a_add rec nx y dd ls st fr mem env fx gh ne 0 (-2147483648) 2147483647 1
  | .isub => a_add rec nx y dd ls st fr mem env fx gh ne 0 (-2147483648) 2147483647 (-1)
  | .imul => a_mul rec nx y dd ls st fr mem env fx gh ne 0 (-2147483648) 2147483647
  | .idiv => a_div rec nx y dd ls st fr mem env fx gh ne 0 (-2147483648) 2147483647
  | .irem => a_rem rec nx y dd ls st fr mem env fx gh ne 0 (Nat.beq (fl y pc) 2)
  | .ineg => a_cnv rec nx y dd ls st fr mem env fx gh ne 0 0 (-2147483648) 2147483647 (-1)
  | .iand => a_bit rec nx y dd ls st fr mem env fx gh ne (fun x z => x &&& z) bdand (Nat.beq (fl y pc) 3)
  | .ior => a_bit rec nx y dd ls st fr mem env fx gh ne (fun x z => x ||| z) bdor false
  | .ishl => a_bit rec nx y dd ls st fr mem env fx gh ne (fun x z => x <<< (z &&& 31)) bdshl false
  | .ishr => a_bit rec nx y dd ls st fr mem env fx gh ne (fun x z => x >>> (z &&& 31)) bdshr false
  | .iushr => a_bit rec nx y dd ls st fr mem env fx gh ne (fun x z => (x.toUInt32 >>> (z.toUInt32 &&& Int32.toUInt32 31)).toInt32) bdful false
  | .ladd => a_add rec nx y dd ls st fr mem env fx gh ne 2 (-9223372036854775808) 9223372036854775807 1
  | .lsub => a_add rec nx y dd ls st fr mem env fx gh ne 2 (-9223372036854775808) 9223372036854775807 (-1)
  | .lmul => a_mul rec nx y dd ls st fr mem env fx gh ne 2 (-9223372036854775808) 9223372036854775807
  | .ldiv => a_div rec nx y dd ls st fr mem env fx gh ne 2 (-9223372036854775808) 9223372036854775807
  | .lrem => a_rem rec nx y dd ls st fr mem env fx gh ne 2 (Nat.beq (fl y pc) 2)
  | .land => a_lng rec nx y dd ls st fr mem env fx gh ne 2
  | .lor => a_lng rec nx y dd ls st fr mem env fx gh ne 2
  | .lshl => a_lng rec nx y dd ls st fr mem env fx gh ne 0
  | .lshr => a_lng rec nx y dd ls st fr mem env fx gh ne 0
  | .i2l => a_i2l rec nx y dd ls st fr mem env fx gh ne
  | .l2i => a_cnv rec nx y dd ls st fr mem env fx gh ne 2 0 (-2147483648) 2147483647 1
  | .i2b => a_cnv rec nx y dd ls st fr mem env fx gh ne 0 0 (-128) 127 1
  | .i2s => a_cnv rec nx y dd ls st fr mem env fx gh ne 0 0 (-32768) 32767 1
  | .i2c => a_cnv rec nx y dd ls st fr mem env fx gh ne 0 0 0 65535 1
  | .dup => a_dup rec nx y dd ls st fr mem env fx gh ne
  | .pop => a_pop rec nx y dd ls st fr mem env fx gh ne
  | .pop2 => a_pop2 rec nx y dd ls st fr mem env fx gh ne
  | .dup2 => a_dup2 rec nx y dd ls st fr mem env fx gh ne
  | .goto _ => rec y dd tg ls st fr mem env fx gh ne
  | .if_icmp o _ => a_icmp rec nx tg y dd ls st fr mem env fx gh ne (Nat.beq (fl y pc) 1) o
  | .ifCond o _ => a_if rec nx tg y dd ls st fr mem env fx gh ne (Nat.beq (fl y pc) 1) o
  | .ifnull _ => a_nul rec nx tg y dd ls st fr mem env fx gh ne true
  | .ifnonnull _ => a_nul rec nx tg y dd ls st fr mem env fx gh ne false
  | .lcmp => a_lcmp rec nx y dd ls st fr mem env fx gh ne
  | .tableswitch a b e f => a_tab rec y dd pc ls st fr mem env fx gh ne a b e f
  | .lookupswitch a b => a_lkp rec y dd pc ls st fr mem env fx gh ne a b
  | .getfield _ => a_get h0 typs HK rec nx r1 r2 y dd ls st fr mem env fx gh ne
  | .putfield _ => a_put typs HS WOK rec nx tg r1 r2 y dd ls st fr mem env fx gh ne
  | .getstatic _ => cond (Nat.beq r1 0) (rec y dd nx ls ((0, 0, (1, [])) :: st) fr mem env fx gh ne) (rec y dd nx ls ((10, 0, (0, [])) :: st) fr mem env fx gh ne)
  | .arraylength => a_len typs el rec nx y dd ls st fr mem env fx gh ne
  | .iaload => a_ald h0 typs HK el eb rec nx y dd ls st fr mem env fx gh ne 13
  | .laload => a_ald h0 typs HK el eb rec nx y dd ls st fr mem env fx gh ne 14
  | .baload => a_ald h0 typs HK el eb rec nx y dd ls st fr mem env fx gh ne 15
  | .aaload => a_ald h0 typs HK el eb rec nx y dd ls st fr mem env fx gh ne 20
  | .iastore => a_ast typs HS WOK rec nx y dd ls st fr mem env fx gh ne 13
  | .lastore => a_ast typs HS WOK rec nx y dd ls st fr mem env fx gh ne 14
  | .bastore => a_ast typs HS WOK rec nx y dd ls st fr mem env fx gh ne 15
  | .invokevirtual _ => a_call typs mi inl SM rec nx r1 y dd ls st fr mem env fx gh ne true
  | .invokestatic _ => cond (Nat.beq r2 8) (a_cpy typs WOA HA rec nx y dd ls st fr mem env fx gh ne) (a_call typs mi inl SM rec nx r1 y dd ls st fr mem env fx gh ne false)
  | .return_ => a_vret mi RT rec y dd st fr mem env fx gh ne
  | .ireturn => a_iret mi RT rec y dd st fr mem env fx gh ne
  | .lreturn => a_lret mi RT rec y dd st fr mem env fx gh ne
  | _ => false
/-- below, at, above each of the numbers -/
noncomputable def aspv (e : ae) (K : aenv → List ae → Bool) : List Int → aenv → List ae → Bool
  | [], env, fx => K env fx
  | q :: l, env, fx => efrc (eadc e (Int.neg q)) (fun x => cond (acnd .eq env fx x K) (cond (acnd .lt env fx x K) (acnd .gt env fx x (fun env fx => aspv e K l env fx)) false) false)
noncomputable def asp (y pc : Nat) (ls : List (Nat × av)) (mem : List am) (env : aenv) (fx : List ae) (gh : List gho) (ne : Nat) (K : List am → aenv → List ae → Nat → Bool) : Bool :=
  match spl y pc with
  | none => K mem env fx ne
  | some q => cond (Nat.beq q.1 0)
      (match alk ls q.2.1 with
        | none => false
        | some v => cond (cond (Nat.beq v.1 0) true (Nat.beq v.1 2)) (aspv v.2.2 (fun env fx => K mem env fx ne) q.2.2.2.2 env fx) false)
      (match xg tyt q.2.2.1 with
        | none => false
        | some t => match xg typs t with
          | none => false
          | some T => cond (Nat.beq t q.2.1 && Nat.blt q.2.2.2.1 T.2.1) (aload h0 typs HK t ((q.2.2.1 : Int), []) ((q.2.2.2.1 : Int), []) mem env fx gh ne (fun v mem env ne => cond (Nat.beq v.1 0) (aspv v.2.2 (fun env fx => K mem env fx ne) q.2.2.2.2 env fx) false)) false)
/-- the instruction at pc -/
noncomputable def aone (rec : aF) : aF := fun y dd pc ls st fr mem env fx gh ne =>
  match xg cd y with
  | none => false
  | some t => match xg t pc with
    | none => false
    | some e => asp h0 tyt typs HK spl y pc ls mem env fx gh ne (fun mem env fx ne => aexe h0 typs HK HS WOK WOA HA mi el eb inl SM RT fl rec e.1 e.2.1 e.2.2.1 e.2.2.2.1 e.2.2.2.2 y dd pc ls st fr mem env fx gh ne)
noncomputable def astp (rec : aF) : aF := fun y dd pc ls st fr mem env fx gh ne =>
  match fr with
  | [] => cond (cond (Nat.beq y y0) (ct pc) false) (CU dd pc ls st mem env fx gh ne) (aone h0 tyt typs HK HS WOK WOA HA cd mi el eb inl SM RT fl spl rec y dd pc ls st [] mem env fx gh ne)
  | q :: l => aone h0 tyt typs HK HS WOK WOA HA cd mi el eb inl SM RT fl spl rec y dd pc ls st (q :: l) mem env fx gh ne
noncomputable def arun (f : Nat) : aF := Nat.rec (motive := fun _ => aF) (fun _ _ _ _ _ _ _ _ _ _ _ => false) (fun _ r => astp h0 tyt typs HK HS WOK WOA HA cd mi el eb inl SM RT fl spl y0 ct CU r) f
end Exe
theorem aspv_ok {P : (Nat → Int) → Prop} (hP : ∃ ρ, P ρ) {e : ae} {K : aenv → List ae → Bool} {z : Int} (hz : ∀ ρ, P ρ → ev ρ e = z) : ∀ (l : List Int) (env : aenv) (fx : List ae), aspv e K l env fx = true → (∀ ρ, P ρ → envR env ρ ∧ fxR fx ρ) → ∃ env' fx', K env' fx' = true ∧ ∀ ρ, P ρ → envR env' ρ ∧ fxR fx' ρ
  | [], env, fx, h, hR => ⟨env, fx, h, hR⟩
  | q :: l, env, fx, h, hR => by
    unfold aspv at h
    rw [efrc_eq] at h
    obtain ⟨h1, h2⟩ := xcnb h
    obtain ⟨h3, h4⟩ := xcnb h2
    have hev : ∀ ρ, P ρ → ev ρ (eadc e (Int.neg q)) = z - q := fun ρ p => by rw [eadc_ev, hz ρ p]; show z + -q = _; omega
    have go : ∀ (o : Jvm.ClassFile.Cond) (k : aenv → List ae → Bool), crel o (z - q) 0 = true → acnd o env fx (eadc e (Int.neg q)) k = true → ∃ env' fx', k env' fx' = true ∧ ∀ ρ, P ρ → envR env' ρ ∧ fxR fx' ρ := fun o k m1 m2 => acnd_ok hP m2 (fun ρ p => ⟨(hR ρ p).1, (hR ρ p).2, by rw [hev ρ p]; exact m1⟩)
    by_cases e1 : z = q
    · exact go .eq K (decide_eq_true (by omega)) h1
    · by_cases e2 : z < q
      · exact go .lt K (decide_eq_true (by omega)) h3
      · obtain ⟨env', fx', m1, m2⟩ := go .gt _ (decide_eq_true (by omega)) h4
        exact aspv_ok hP hz l env' fx' m1 m2
end
section
/-! Every instruction is right; so are the runs -/
section Snd7
variable {sv : Nat → Int32} {cd : xcd} {mi : xmi} {df : xdf} {el ec : Nat → Nat} {eb : Nat → List Nat} {G : xG} {h0 : xheap} {n0 : Nat} {cn0 sn0 : Nat → Nat} {Q : cg → Option cv → Prop}
variable {tyt : Lean.RArray (Nat × Nat)} {typs : Lean.RArray (Nat × aty)} {GS : gho → (Nat → Int) → cg → Prop} {FX : (Nat → Int) → Nat → cg → Prop} {wc : Nat → Nat → Prop}
variable {HK : aenv → List ae → List am → List gho → Nat → ae → ae → Int × Int → Int × Int} {HS : aenv → List ae → List am → List gho → Nat → ae → ae → av → List gho} {WOK : aenv → List ae → Nat → ae → ae → Bool} {WOA : aenv → List ae → Nat → ae → Bool} {HA : aenv → List ae → List am → List gho → Nat → ae → Nat → ae → ae → ae → ae → List gho} {inl : Nat → Bool}
variable {SM : Nat → Nat → List av → List am → aenv → List ae → List gho → Nat → (Option av → List am → aenv → List ae → List gho → Nat → Bool) → Bool} {RT : Option av → List am → aenv → List ae → List gho → Nat → Bool}
variable {fl : Nat → Nat → Nat} {spl : Nat → Nat → Option (Nat × Nat × Nat × Nat × List Int)} {ct : Nat → Bool} {CU : Nat → Nat → List (Nat × av) → List av → List am → aenv → List ae → List gho → Nat → Bool}
variable {rec : aF} {y d dd pc nx tg r1 r2 : Nat} {ins : Instr} {ls : List (Nat × av)} {st : List av} {fr : List afr} {mem : List am} {env : aenv} {fx : List ae} {gh : List gho} {ne : Nat} {ρ : Nat → Int} {g : cg} {lsc : List (Nat × cv)} {stc : List cv} {frc : List cfr}
/-- all that is asked of the tables, the ghosts, the writes -/
def aOK (sv : Nat → Int32) (cd : xcd) (mi : xmi) (df : xdf) (el ec : Nat → Nat) (eb : Nat → List Nat) (G : xG) (h0 : xheap) (n0 : Nat) (cn0 sn0 : Nat → Nat) (Q : cg → Option cv → Prop) (tyt : Lean.RArray (Nat × Nat)) (typs : Lean.RArray (Nat × aty)) (GS : gho → (Nat → Int) → cg → Prop) (FX : (Nat → Int) → Nat → cg → Prop) (wc : Nat → Nat → Prop)
    (HK : aenv → List ae → List am → List gho → Nat → ae → ae → Int × Int → Int × Int) (HS : aenv → List ae → List am → List gho → Nat → ae → ae → av → List gho) (WOK : aenv → List ae → Nat → ae → ae → Bool) (WOA : aenv → List ae → Nat → ae → Bool) (HA : aenv → List ae → List am → List gho → Nat → ae → Nat → ae → ae → ae → ae → List gho)
    (SM : Nat → Nat → List av → List am → aenv → List ae → List gho → Nat → (Option av → List am → aenv → List ae → List gho → Nat → Bool) → Bool) (RT : Option av → List am → aenv → List ae → List gho → Nat → Bool) : Prop :=
  cW sv cd mi df el eb G ∧ aFXm FX ∧ (∀ (ρ : Nat → Int) (ne : Nat) (g : cg) (k j : Nat) (z : Int), FX ρ ne g → wc k j → FX ρ ne (cup g k j z)) ∧ (∀ (ρ : Nat → Int) (ne : Nat) (g : cg) (ka kb s d n : Nat), FX ρ ne g → (∀ j, wc kb j) → FX ρ ne (ccp g ka kb s d n)) ∧ cH0 h0 ∧ aWd h0 tyt typs ∧ aGS0 sv el ec GS ∧ aHK h0 tyt GS HK ∧ aHS h0 tyt GS HS ∧ aWOK tyt WOK wc ∧ aHA h0 tyt GS HA ∧ aWOA tyt WOA wc ∧ aSM G h0 n0 tyt typs GS FX SM ∧ aRT h0 tyt typs GS FX Q RT ∧ (∀ (y : Nat) (q : Nat × Nat × Nat × Nat × Nat × Nat), xg mi y = some q → cn0 y ≤ q.1 ∧ sn0 y ≤ q.2.1) ∧ (∀ y t, xg cd y = some t → ∃ q, xg mi y = some q)
set_option maxHeartbeats 4000000 in
theorem aexe_ok (hOK : aOK sv cd mi df el ec eb G h0 n0 cn0 sn0 Q tyt typs GS FX wc HK HS WOK WOA HA SM RT) (hrec : aSnd G h0 n0 cn0 sn0 Q tyt typs GS FX rec) (hc : cC cd y pc (ins, nx, tg, r1, r2)) (hγ : aGm h0 tyt typs GS FX ρ ls st fr mem env fx gh ne g lsc stc frc) (hd : dd ≤ d)
    (h : aexe h0 typs HK HS WOK WOA HA mi ec eb inl SM RT fl rec ins nx tg r1 r2 y dd pc ls st fr mem env fx gh ne = true) : cTF G h0 n0 cn0 sn0 Q frc y d pc lsc stc g := by
  obtain ⟨hG, hF, hFS, hFC, h00, hW, hGS, hHK, hHS, hWO, hHA, hWA, hSM, hRT, hmi, hmy⟩ := hOK
  have hy : ∃ q, xg mi y = some q := by obtain ⟨t, t1, -⟩ := hc; exact hmy y t t1
  have psh : ∀ {i : Instr}, cC cd y pc (i, nx, tg, r1, r2) → (∀ (rec : xF) (lx : List (Nat × xv)) (sx : List xv) (h : xheap), xex mi df el eb rec i nx tg r1 r2 y d pc lx sx [] h n0 (cn0 y) (sn0 y) = rec y d nx lx ((0, r1) :: sx) [] h n0 (cn0 y) (sn0 y)) → (∀ (lf : dlf) (sx : List cv) (g : cg), dnx h0 sv mi el eb i nx tg r1 r2 pc lf sx g = dnxt nx lf ((0, (nI r1).toInt) :: sx) g) → cond (Nat.blt r1 4294967296) (a_psh rec nx y dd ls st fr mem env fx gh ne (sI r1)) false = true → cTF G h0 n0 cn0 sn0 Q frc y d pc lsc stc g := fun hc he hdn h => by
    obtain ⟨h1, h2⟩ := xcnb h
    exact a_psh_ok hG hF hrec hc hγ hd he hdn (xltb h1) h2
  have pshL : ∀ {i : Instr}, cC cd y pc (i, nx, tg, r1, r2) → (∀ (rec : xF) (lx : List (Nat × xv)) (sx : List xv) (h : xheap), xex mi df el eb rec i nx tg r1 r2 y d pc lx sx [] h n0 (cn0 y) (sn0 y) = rec y d nx lx ((2, r1) :: sx) [] h n0 (cn0 y) (sn0 y)) → (∀ (lf : dlf) (sx : List cv) (g : cg), dnx h0 sv mi el eb i nx tg r1 r2 pc lf sx g = dnxt nx lf ((2, (lN r1).toInt) :: sx) g) → cond (Nat.blt r1 18446744073709551616) (a_pshL rec nx y dd ls st fr mem env fx gh ne (sL r1)) false = true → cTF G h0 n0 cn0 sn0 Q frc y d pc lsc stc g := fun hc he hdn h => by
    obtain ⟨h1, h2⟩ := xcnb h
    exact a_pshL_ok hG hF hrec hc hγ hd he hdn (xltb h1) h2
  cases ins with
  | iconst k => exact psh hc (fun _ _ _ _ => rfl) (fun lf sx g => d_k0 nx r1 lf sx g) h
  | bipush k => exact psh hc (fun _ _ _ _ => rfl) (fun lf sx g => d_k0 nx r1 lf sx g) h
  | sipush k => exact psh hc (fun _ _ _ _ => rfl) (fun lf sx g => d_k0 nx r1 lf sx g) h
  | ldc_w k => exact psh hc (fun _ _ _ _ => rfl) (fun lf sx g => d_k0 nx r1 lf sx g) h
  | lconst k => exact pshL hc (fun _ _ _ _ => rfl) (fun lf sx g => d_k2 nx r1 lf sx g) h
  | ldc2_w k => exact pshL hc (fun _ _ _ _ => rfl) (fun lf sx g => d_k2 nx r1 lf sx g) h
  | ldc k =>
    have h : cond (Nat.beq r2 0) (cond (Nat.blt r1 4294967296) (a_psh rec nx y dd ls st fr mem env fx gh ne (sI r1)) false) (cond (Nat.beq r2 1) (rec y dd nx ls ((6, 1, (0, [])) :: st) fr mem env fx gh ne) (cond (Nat.beq r2 2) (rec y dd nx ls ((6, 3, (0, [])) :: st) fr mem env fx gh ne) false)) = true := h
    have hx : ∀ (rec : xF) (lx : List (Nat × xv)) (sx : List xv) (h : xheap), xex mi df el eb rec (.ldc k) nx tg r1 r2 y d pc lx sx [] h n0 (cn0 y) (sn0 y) = cond (Nat.beq r2 0) (rec y d nx lx ((0, r1) :: sx) [] h n0 (cn0 y) (sn0 y)) (cond (Nat.beq r2 1) (rec y d nx lx ((6, 1) :: sx) [] h n0 (cn0 y) (sn0 y)) (cond (Nat.beq r2 2) (rec y d nx lx ((6, 3) :: sx) [] h n0 (cn0 y) (sn0 y)) none)) := fun _ _ _ _ => rfl
    cases h0' : Nat.beq r2 0 with
    | true =>
      rw [h0'] at h
      exact psh hc (fun rec lx sx hp => by rw [hx, h0']; rfl) (fun lf sx g => by show cond (Nat.beq r2 0) _ _ = _; rw [h0']; exact d_k0 nx r1 lf sx g) h
    | false =>
      rw [h0'] at h
      simp only [cond_false] at h
      cases h1' : Nat.beq r2 1 with
      | true =>
        rw [h1'] at h
        exact a_pshV_ok (a := (6, 1, (0, []))) (v := (6, 1)) hG hF hrec hc hγ hd (fun _ => rfl) (fun rec lx sx hp => by rw [hx, h0', h1']; rfl) (fun lf sx g => by show cond (Nat.beq r2 0) _ (cond (Nat.beq r2 1) _ _) = _; rw [h0', h1']; rfl) h
      | false =>
        rw [h1'] at h
        simp only [cond_false] at h
        obtain ⟨h2', h⟩ := xcnb h
        exact a_pshV_ok (a := (6, 3, (0, []))) (v := (6, 3)) hG hF hrec hc hγ hd (fun _ => rfl) (fun rec lx sx hp => by rw [hx, h0', h1', h2']; rfl) (fun lf sx g => by show cond (Nat.beq r2 0) _ (cond (Nat.beq r2 1) _ _) = _; rw [h0', h1']; rfl) h
  | aconst_null => exact a_pshV_ok (a := (5, 0, (0, []))) (v := (5, 0)) hG hF hrec hc hγ hd (fun _ => rfl) (fun _ _ _ _ => rfl) (fun _ _ _ => rfl) h
  | iload i => exact a_ld_ok hG hF hrec hc hγ hd (by decide) (by decide) (fun _ _ _ _ => rfl) (fun _ _ _ => rfl) h
  | iload_n i => exact a_ld_ok hG hF hrec hc hγ hd (by decide) (by decide) (fun _ _ _ _ => rfl) (fun _ _ _ => rfl) h
  | lload i => exact a_ld_ok hG hF hrec hc hγ hd (by decide) (by decide) (fun _ _ _ _ => rfl) (fun _ _ _ => rfl) h
  | lload_n i => exact a_ld_ok hG hF hrec hc hγ hd (by decide) (by decide) (fun _ _ _ _ => rfl) (fun _ _ _ => rfl) h
  | aload i => exact a_ld_ok hG hF hrec hc hγ hd (by decide) (by decide) (fun _ _ _ _ => rfl) (fun _ _ _ => rfl) h
  | aload_n i => exact a_ld_ok hG hF hrec hc hγ hd (by decide) (by decide) (fun _ _ _ _ => rfl) (fun _ _ _ => rfl) h
  | istore i => exact a_st_ok hG hF hrec hc hγ hd (by decide) (by decide) xk1_0 xk1_kd xk1_z (fun _ _ _ _ => rfl) (fun _ _ _ => rfl) h
  | istore_n i => exact a_st_ok hG hF hrec hc hγ hd (by decide) (by decide) xk1_0 xk1_kd xk1_z (fun _ _ _ _ => rfl) (fun _ _ _ => rfl) h
  | lstore i => exact a_st_ok hG hF hrec hc hγ hd (by decide) (by decide) xk2_0 xk2_kd xk2_z (fun _ _ _ _ => rfl) (fun _ _ _ => rfl) h
  | lstore_n i => exact a_st_ok hG hF hrec hc hγ hd (by decide) (by decide) xk2_0 xk2_kd xk2_z (fun _ _ _ _ => rfl) (fun _ _ _ => rfl) h
  | astore i => exact a_st_ok hG hF hrec hc hγ hd (by decide) (by decide) xk1_0 xk1_kd xk1_z (fun _ _ _ _ => rfl) (fun _ _ _ => rfl) h
  | astore_n i => exact a_st_ok hG hF hrec hc hγ hd (by decide) (by decide) xk1_0 xk1_kd xk1_z (fun _ _ _ _ => rfl) (fun _ _ _ => rfl) h
  | iinc i z => exact a_inc_ok hG hF hrec hγ hd hc h
  | iadd => exact a_addI_ok (F := fun x z => x + z) hG hF hrec hc hγ hd (fun _ _ _ _ => rfl) (fun lf sx g => d_adi_ok i32_add nx lf sx g) (fun a b => by rw [x32, nI_add]) (fun a b => by rw [i32_add, Int.one_mul]) h
  | isub => exact a_addI_ok (F := fun x z => x - z) hG hF hrec hc hγ hd (fun _ _ _ _ => rfl) (fun lf sx g => d_adi_ok i32_sub nx lf sx g) (fun a b => nI_sub a b) (fun a b => by rw [i32_sub]; congr 1; omega) h
  | imul => exact a_mulI_ok hG hF hrec hγ hd hc h
  | idiv => exact a_divI_ok hG hF hrec hγ hd hc h
  | irem => exact a_remI_ok hG hF hrec hγ hd hc h
  | ineg => exact a_cnvI_ok (F := fun x => -x) hG hF hrec hc hγ hd (fun _ _ _ _ => rfl) (fun _ _ _ => rfl) (fun a => nI_xnu _) (fun X => by have := cI_of (-X); unfold cI at this; omega) (fun x hx b1 b2 => by rw [i32_neg, i32_int (by unfold cI; omega)]; omega) h
  | iand => exact a_bit_ok (F := fun x z => x &&& z) hG hF hrec hc hγ hd (fun _ _ _ _ => rfl) (fun _ _ _ => rfl) (fun a b => nI_xnu _) bdand_ok (fun _ x z hx hz z0 => (iand_r (i32 x) hz z0).2) h
  | ior => exact a_bit_ok (F := fun x z => x ||| z) hG hF hrec hc hγ hd (fun _ _ _ _ => rfl) (fun _ _ _ => rfl) (fun a b => nI_xnu _) bdor_ok (fun z => by cases z) h
  | ishl => exact a_bit_ok (F := fun x z => x <<< (z &&& 31)) hG hF hrec hc hγ hd (fun _ _ _ _ => rfl) (fun _ _ _ => rfl) (fun a b => nI_xnu _) bdshl_ok (fun z => by cases z) h
  | ishr => exact a_bit_ok (F := fun x z => x >>> (z &&& 31)) hG hF hrec hc hγ hd (fun _ _ _ _ => rfl) (fun _ _ _ => rfl) (fun a b => nI_xnu _) bdshr_ok (fun z => by cases z) h
  | iushr => exact a_bit_ok (F := fun x z => (x.toUInt32 >>> (z.toUInt32 &&& Int32.toUInt32 31)).toInt32) hG hF hrec hc hγ hd (fun _ _ _ _ => rfl) (fun _ _ _ => rfl) (fun a b => nI_xnu _) (fun x z ia ib _ _ _ _ _ _ => bdful_ok _ ia ib) (fun z => by cases z) h
  | ladd => exact a_addL_ok (F := fun x z => x + z) hG hF hrec hc hγ hd (fun _ _ _ _ => rfl) (fun lf sx g => d_adl_ok i64_add nx lf sx g) (fun a b => lN_xnl _) (fun a b => by rw [i64_add, Int.one_mul]) h
  | lsub => exact a_addL_ok (F := fun x z => x - z) hG hF hrec hc hγ hd (fun _ _ _ _ => rfl) (fun lf sx g => d_adl_ok i64_sub nx lf sx g) (fun a b => lN_xnl _) (fun a b => by rw [i64_sub]; congr 1; omega) h
  | lmul => exact a_mulL_ok hG hF hrec hγ hd hc h
  | ldiv => exact a_divL_ok hG hF hrec hγ hd hc h
  | lrem => exact a_remL_ok hG hF hrec hγ hd hc h
  | land => exact a_lngB_ok (F := fun x z => x &&& z) hG hF hrec hc hγ hd (fun _ _ _ _ => rfl) (fun _ _ _ => rfl) (fun a b => lN_xnl _) h
  | lor => exact a_lngB_ok (F := fun x z => x ||| z) hG hF hrec hc hγ hd (fun _ _ _ _ => rfl) (fun _ _ _ => rfl) (fun a b => lN_xnl _) h
  | lshl => exact a_lngS_ok (F := fun x z => x <<< (z.toInt64 &&& 63)) hG hF hrec hc hγ hd (fun _ _ _ _ => rfl) (fun _ _ _ => rfl) (fun a b => lN_xnl _) h
  | lshr => exact a_lngS_ok (F := fun x z => x >>> (z.toInt64 &&& 63)) hG hF hrec hc hγ hd (fun _ _ _ _ => rfl) (fun _ _ _ => rfl) (fun a b => lN_xnl _) h
  | i2l => exact a_i2l_ok hG hF hrec hγ hd hc h
  | l2i => exact a_l2i_ok hG hF hrec hγ hd hc h
  | i2b => exact a_cnvI_ok (F := fun x => x.toInt8.toInt32) hG hF hrec hc hγ hd (fun _ _ _ _ => rfl) (fun _ _ _ => rfl) (fun a => nI_xnu _) i2b_in (fun x hx b1 b2 => by rw [Int.one_mul] at b1 b2 ⊢; exact i2b_id b1 b2) h
  | i2s => exact a_cnvI_ok (F := fun x => x.toInt16.toInt32) hG hF hrec hc hγ hd (fun _ _ _ _ => rfl) (fun _ _ _ => rfl) (fun a => nI_xnu _) i2s_in (fun x hx b1 b2 => by rw [Int.one_mul] at b1 b2 ⊢; exact i2s_id b1 b2) h
  | i2c => exact a_cnvI_ok (F := fun x => (x.toUInt32 % 65536).toInt32) hG hF hrec hc hγ hd (fun _ _ _ _ => rfl) (fun _ _ _ => rfl) (fun a => (nI_c65 a).symm) i2c_in (fun x hx b1 b2 => by rw [Int.one_mul] at b1 b2 ⊢; exact i2c_id b1 b2) h
  | dup => exact a_dup_ok hG hF hrec hγ hd hc h
  | pop => exact a_pop_ok hG hF hrec hγ hd hc h
  | pop2 => exact a_pop2_ok hG hF hrec hγ hd hc h
  | dup2 => exact a_dup2_ok hG hF hrec hγ hd hc h
  | goto o => exact a_goto_ok hG hF hrec hγ hd hc h
  | if_icmp o w => exact a_icmp_ok hG hF hrec hγ hd hc h
  | ifCond o w => exact a_if_ok hG hF hrec hγ hd hc h
  | ifnull o => exact a_nul_ok hG hF hrec hc hγ hd (fun _ _ _ _ => rfl) (fun _ _ _ => rfl) h
  | ifnonnull o => exact a_nul_ok hG hF hrec hc hγ hd (fun _ _ _ _ => rfl) (fun _ _ _ => rfl) h
  | lcmp => exact a_lcmp_ok hG hF hrec hγ hd hc h
  | tableswitch a b e f => exact a_tab_ok hG hF hrec hγ hd hc h
  | lookupswitch a b => exact a_lkp_ok hG hF hrec hγ hd hc h
  | getfield i => exact a_get_ok hG hF hrec hγ hd hW hHK hc h
  | putfield i => exact a_put_ok hG hF hrec hγ hd hFS hW hHS hWO hc h
  | getstatic i =>
    have h : cond (Nat.beq r1 0) (rec y dd nx ls ((0, 0, (1, [])) :: st) fr mem env fx gh ne) (rec y dd nx ls ((10, 0, (0, [])) :: st) fr mem env fx gh ne) = true := h
    have hx : ∀ (rec : xF) (lx : List (Nat × xv)) (sx : List xv) (h : xheap), xex mi df el eb rec (.getstatic i) nx tg r1 r2 y d pc lx sx [] h n0 (cn0 y) (sn0 y) = cond (Nat.beq r1 0) (rec y d nx lx ((0, 1) :: sx) [] h n0 (cn0 y) (sn0 y)) (rec y d nx lx ((10, 0) :: sx) [] h n0 (cn0 y) (sn0 y)) := fun _ _ _ _ => rfl
    cases h0' : Nat.beq r1 0 with
    | true =>
      rw [h0'] at h
      exact a_pshV_ok (v := (0, 1)) hG hF hrec hc hγ hd (fun τ => avR_mk0 (by unfold cI; omega) τ _ (evc τ 1)) (fun rec lx sx hp => by rw [hx, h0']; rfl) (fun lf sx g => by show cond (Nat.beq r1 0) _ _ = _; rw [h0']; rfl) h
    | false =>
      rw [h0'] at h
      exact a_pshV_ok (a := (10, 0, (0, []))) (v := (10, 0)) hG hF hrec hc hγ hd (fun _ => rfl) (fun rec lx sx hp => by rw [hx, h0']; rfl) (fun lf sx g => by show cond (Nat.beq r1 0) _ _ = _; rw [h0']; rfl) h
  | arraylength => exact a_len_ok hG hF hrec hγ hd hGS hW hc h
  | iaload => exact a_ald_ok hG hF hrec hc hγ hd (fun _ _ _ _ => rfl) (fun _ _ _ => rfl) (fun _ => rfl) (fun z => by cases z) hGS hW hHK h
  | laload => exact a_ald_ok hG hF hrec hc hγ hd (fun _ _ _ _ => rfl) (fun _ _ _ => rfl) (fun z => by cases z) (fun z => by cases z) hGS hW hHK h
  | baload => exact a_ald_ok hG hF hrec hc hγ hd (fun _ _ _ _ => rfl) (fun _ _ _ => rfl) (fun z => by cases z) (fun _ => rfl) hGS hW hHK h
  | aaload => exact a_ald_ok hG hF hrec hc hγ hd (fun _ _ _ _ => rfl) (fun _ _ _ => rfl) (fun z => by cases z) (fun z => by cases z) hGS hW hHK h
  | iastore => exact a_ast_ok hG hF hrec hc hγ hd (fun _ _ _ _ => rfl) (fun _ _ _ => rfl) (Or.inl rfl) hFS hW hHS hWO h
  | lastore => exact a_ast_ok hG hF hrec hc hγ hd (fun _ _ _ _ => rfl) (fun _ _ _ => rfl) (Or.inr (Or.inl rfl)) hFS hW hHS hWO h
  | bastore => exact a_ast_ok hG hF hrec hc hγ hd (fun _ _ _ _ => rfl) (fun _ _ _ => rfl) (Or.inr (Or.inr rfl)) hFS hW hHS hWO h
  | invokevirtual i => exact a_call_ok (virt := true) hG hF hrec hc hγ hd hmi hy (fun _ => rfl) (fun _ _ _ _ _ => rfl) (fun _ _ _ => rfl) hW hSM h
  | invokestatic i =>
    have h : cond (Nat.beq r2 8) (a_cpy typs WOA HA rec nx y dd ls st fr mem env fx gh ne) (a_call typs mi inl SM rec nx r1 y dd ls st fr mem env fx gh ne false) = true := h
    have hx : ∀ (d : Nat) (rec : xF) (lx : List (Nat × xv)) (sx : List xv) (h : xheap), xex mi df el eb rec (.invokestatic i) nx tg r1 r2 y d pc lx sx [] h n0 (cn0 y) (sn0 y) = cond (Nat.beq r2 8) (x_cpy rec nx y d lx sx [] h n0 (cn0 y) (sn0 y)) (x_call mi rec nx r1 y d lx sx [] h n0 (cn0 y) (sn0 y) false false) := fun _ _ _ _ _ => rfl
    cases h8 : Nat.beq r2 8 with
    | true =>
      rw [h8] at h
      exact a_cpy_ok hG hF hrec hγ hd h00 hFC hW hHA hWA hc (xeqb h8) h
    | false =>
      rw [h8] at h
      exact a_call_ok (virt := false) hG hF hrec hc hγ hd hmi hy (fun z => by cases z) (fun d rec lx sx hp => by rw [hx, h8]; rfl) (fun lf sx g => by show cond (Nat.beq r2 8) _ _ = _; rw [h8]; rfl) hW hSM h
  | return_ => exact a_vret_ok hG hF hrec hγ hd hRT hc h
  | ireturn => exact a_iret_ok hG hF hrec hγ hd hRT hc h
  | lreturn => exact a_lret_ok hG hF hrec hγ hd hRT hc h
  | _ => cases h
theorem asp_ok (hOK : aOK sv cd mi df el ec eb G h0 n0 cn0 sn0 Q tyt typs GS FX wc HK HS WOK WOA HA SM RT) (hγ : aGm h0 tyt typs GS FX ρ ls st fr mem env fx gh ne g lsc stc frc) {K : List am → aenv → List ae → Nat → Bool} (h : asp h0 tyt typs HK spl y pc ls mem env fx gh ne K = true) :
    ∃ mem' env' fx' ne' ρ', K mem' env' fx' ne' = true ∧ aGm h0 tyt typs GS FX ρ' ls st fr mem' env' fx' gh ne' g lsc stc frc := by
  obtain ⟨hG, hF, hFS, hFC, h00, hW, hGS, hHK, -⟩ := hOK
  unfold asp at h
  cases hs : spl y pc with
  | none => rw [hs] at h; exact ⟨mem, env, fx, ne, ρ, h, hγ⟩
  | some q =>
    rw [hs] at h
    dsimp only at h
    cases hq : Nat.beq q.1 0 with
    | true =>
      rw [hq] at h
      simp only [cond_true] at h
      cases ha : alk ls q.2.1 with
      | none => rw [ha] at h; cases h
      | some v =>
        rw [ha] at h
        obtain ⟨g1, g2⟩ := xcnb h
        obtain ⟨vc, e1, e2⟩ := lsR_lk hγ.gl.self ha
        have hv : aC ne ρ (fun τ => avR tyt τ v vc) := fun τ hτ => by
          obtain ⟨v', e3, e4⟩ := lsR_lk (hγ.gl τ hτ) ha
          have : v' = vc := Option.some.inj (e3.symm.trans e1)
          rw [← this]; exact e4
        obtain ⟨z, hze⟩ : ∃ z, aC ne ρ (fun τ => ev τ v.2.2 = z) := by
          rcases xcnt g1 with q | q
          · obtain ⟨z, -, -, hze⟩ := a_int hv (xeqb q)
            exact ⟨z, hze⟩
          · obtain ⟨z, -, -, hze⟩ := a_lngv hv (xeqb q)
            exact ⟨z, hze⟩
        obtain ⟨env', fx', k1, k2⟩ := aspv_ok (P := aag ne ρ) ⟨ρ, aag.rf ne ρ⟩ hze _ _ _ g2 (fun τ hτ => ⟨(hγ.1 τ hτ).1, (hγ.1 τ hτ).2.1⟩)
        exact ⟨mem, env', fx', ne, ρ, k1, fun τ hτ => coR_env (hγ.1 τ hτ) (k2 τ hτ).1 (k2 τ hτ).2, hγ.2⟩
    | false =>
      rw [hq] at h
      simp only [cond_false] at h
      cases ht : xg tyt q.2.2.1 with
      | none => rw [ht] at h; cases h
      | some t =>
        rw [ht] at h
        dsimp only at h
        obtain ⟨qc, T, w1, w2, w3, w4, w5, w6, w7, w8⟩ := hW _ _ ht
        rw [w2] at h
        obtain ⟨g1, g2⟩ := xcnb h
        obtain ⟨g3, g4⟩ := xand g1
        have hj : q.2.2.2.1 < qc.2.1 := by rw [← w4]; exact xltb g4
        obtain ⟨ww, u, u1, u2, u3, u4⟩ := w8 _ hj
        obtain ⟨v, mem', env', ne', ρ', h1, h2, h3, h4, h5⟩ := aload_ok hW hHK hγ.2.2.1 hγ.1 (fun τ hτ => ⟨evc τ _, evc τ _⟩) ht ⟨qc, ww, w1, u1, rfl⟩ w1 hj g2
        obtain ⟨k0, k1⟩ := xcnb h1
        obtain ⟨z, -, -, hze⟩ := a_int h5 (xeqb k0)
        obtain ⟨env2, fx2, k2, k3⟩ := aspv_ok (P := aag ne' ρ') ⟨ρ', aag.rf ne' ρ'⟩ hze _ _ _ k1 (fun τ hτ => ⟨(h4 τ hτ).1, (h4 τ hτ).2.1⟩)
        exact ⟨mem', env2, fx2, ne', ρ', k2, fun τ hτ => coR_env (h4 τ hτ) (k3 τ hτ).1 (k3 τ hτ).2, hγ.2.1.mono h2 h3, hγ.2.2.1, hF _ _ _ _ _ hγ.2.2.2 h2 h3⟩
theorem aone_ok (hOK : aOK sv cd mi df el ec eb G h0 n0 cn0 sn0 Q tyt typs GS FX wc HK HS WOK WOA HA SM RT) (hrec : aSnd G h0 n0 cn0 sn0 Q tyt typs GS FX rec) : aSnd G h0 n0 cn0 sn0 Q tyt typs GS FX (aone h0 tyt typs HK HS WOK WOA HA cd mi ec eb inl SM RT fl spl rec) := by
  intro y dd pc ls st fr mem env fx gh ne h ρ g lsc stc frc d hγ hd
  unfold aone at h
  cases ht : xg cd y with
  | none => rw [ht] at h; cases h
  | some t =>
    rw [ht] at h
    dsimp only at h
    cases he : xg t pc with
    | none => rw [he] at h; cases h
    | some e =>
      rw [he] at h
      dsimp only at h
      obtain ⟨mem', env', fx', ne', ρ', h1, h2⟩ := asp_ok hOK hγ h
      exact aexe_ok hOK hrec ⟨t, ht, he⟩ h2 hd h1
/-- where the runs are cut -/
def aCU (G : xG) (h0 : xheap) (n0 : Nat) (cn0 sn0 : Nat → Nat) (Q : cg → Option cv → Prop) (tyt : Lean.RArray (Nat × Nat)) (typs : Lean.RArray (Nat × aty)) (GS : gho → (Nat → Int) → cg → Prop) (FX : (Nat → Int) → Nat → cg → Prop) (y0 : Nat) (ct : Nat → Bool) (CU : Nat → Nat → List (Nat × av) → List av → List am → aenv → List ae → List gho → Nat → Bool) : Prop :=
  ∀ (y dd pc : Nat) (ls : List (Nat × av)) (st : List av) (mem : List am) (env : aenv) (fx : List ae) (gh : List gho) (ne : Nat), ct pc = true → CU dd pc ls st mem env fx gh ne = true → ∀ (ρ : Nat → Int) (g : cg) (lsc : List (Nat × cv)) (stc : List cv) (d : Nat), aGm h0 tyt typs GS FX ρ ls st [] mem env fx gh ne g lsc stc [] → dd ≤ d → y = y0 → cTF G h0 n0 cn0 sn0 Q [] y d pc lsc stc g
theorem astp_ok {y0 : Nat} (hOK : aOK sv cd mi df el ec eb G h0 n0 cn0 sn0 Q tyt typs GS FX wc HK HS WOK WOA HA SM RT) (hCU : aCU G h0 n0 cn0 sn0 Q tyt typs GS FX y0 ct CU) (hrec : aSnd G h0 n0 cn0 sn0 Q tyt typs GS FX rec) : aSnd G h0 n0 cn0 sn0 Q tyt typs GS FX (astp h0 tyt typs HK HS WOK WOA HA cd mi ec eb inl SM RT fl spl y0 ct CU rec) := by
  intro y dd pc ls st fr mem env fx gh ne h ρ g lsc stc frc d hγ hd
  unfold astp at h
  cases fr with
  | cons q l => exact aone_ok hOK hrec _ _ _ _ _ _ _ _ _ _ _ h ρ g lsc stc frc d hγ hd
  | nil =>
    dsimp only at h
    cases hb : cond (Nat.beq y y0) (ct pc) false with
    | false => rw [hb] at h; exact aone_ok hOK hrec _ _ _ _ _ _ _ _ _ _ _ h ρ g lsc stc frc d hγ hd
    | true =>
      rw [hb] at h
      obtain ⟨h1, h2⟩ := xcnb hb
      cases frc with
      | cons _ _ => exact ((hγ.2.1.imp (fun _ x => x.2.2)).self).elim
      | nil => exact hCU y dd pc ls st mem env fx gh ne h2 h ρ g lsc stc d hγ hd (xeqb h1)
theorem arun_ok {y0 : Nat} (hOK : aOK sv cd mi df el ec eb G h0 n0 cn0 sn0 Q tyt typs GS FX wc HK HS WOK WOA HA SM RT) (hCU : aCU G h0 n0 cn0 sn0 Q tyt typs GS FX y0 ct CU) : ∀ f : Nat, aSnd G h0 n0 cn0 sn0 Q tyt typs GS FX (arun h0 tyt typs HK HS WOK WOA HA cd mi ec eb inl SM RT fl spl y0 ct CU f)
  | 0 => fun _ _ _ _ _ _ _ _ _ _ _ h => by cases h
  | f + 1 => astp_ok hOK hCU (arun_ok hOK hCU f)
end Snd7
end
section
/-! Patterns of states: what holds at a cut, at a start, at an end -/
/-- locals, stack, answer, places, intervals, facts, ghosts, measure -/
abbrev apat : Type := List (Nat × av) × List av × Option av × List am × List (Int × Int) × List ae × List gho × ae
def rvR (tyt : Lean.RArray (Nat × Nat)) (τ : Nat → Int) : Option av → Option cv → Prop
  | none, none => True
  | some a, some v => avR tyt τ a v
  | _, _ => False
def aivR (l : List (Int × Int)) (ρ : Nat → Int) : Prop := ∀ (s : Nat) (i : Int × Int), agt l s = some i → i.1 ≤ ρ s ∧ ρ s ≤ i.2
def patR (h0 : xheap) (tyt : Lean.RArray (Nat × Nat)) (GS : gho → (Nat → Int) → cg → Prop) (P : apat) (ρ : Nat → Int) (g : cg) (lsc : List (Nat × cv)) (stc : List cv) (rv : Option cv) : Prop :=
  lsR tyt ρ P.1 lsc ∧ stR tyt ρ P.2.1 stc ∧ rvR tyt ρ P.2.2.1 rv ∧ amsR h0 tyt ρ g P.2.2.2.1 ∧ aivR P.2.2.2.2.1 ρ ∧ fxR P.2.2.2.2.2.1 ρ ∧ ghR GS P.2.2.2.2.2.2.1 ρ g
/-! substitution -/
def asgt (σ : List ae) (s : Nat) : ae := match agt σ s with
  | none => (0, [])
  | some e => e
def asbl (σ : List ae) : List (Nat × Int) → ae → ae
  | [], acc => acc
  | q :: l, acc => asbl σ l (eadd acc (asgt σ q.1) q.2)
def asub (σ : List ae) (e : ae) : ae := match e.2 with
  | [] => e
  | _ => asbl σ e.2 (e.1, [])
def asρ (ρ : Nat → Int) (σ : List ae) : Nat → Int := fun s => ev ρ (asgt σ s)
theorem asbl_ev (ρ : Nat → Int) (σ : List ae) : ∀ (l : List (Nat × Int)) (acc : ae), ev ρ (asbl σ l acc) = ev ρ acc + evl (asρ ρ σ) l
  | [], acc => by show ev ρ acc = ev ρ acc + 0; omega
  | q :: l, acc => by
    show ev ρ (asbl σ l (eadd acc (asgt σ q.1) q.2)) = ev ρ acc + (q.2 * asρ ρ σ q.1 + evl (asρ ρ σ) l)
    rw [asbl_ev ρ σ l, eadd_ev]
    show ev ρ acc + q.2 * asρ ρ σ q.1 + evl (asρ ρ σ) l = _
    omega
theorem asub_ev (ρ : Nat → Int) (σ : List ae) (e : ae) : ev ρ (asub σ e) = ev (asρ ρ σ) e := by
  unfold asub
  split
  · rename_i hn
    unfold ev
    rw [hn]
    rfl
  · rw [asbl_ev]
    show e.1 + 0 + evl (asρ ρ σ) e.2 = e.1 + evl (asρ ρ σ) e.2
    omega
/-- a value fits a pattern -/
noncomputable def avok (env : aenv) (σ : List ae) (p a : av) : Bool :=
  cond (Nat.beq p.1 a.1) (match p.1 with
    | 0 => eeq env (asub σ p.2.2) a.2.2
    | 2 => eeq env (asub σ p.2.2) a.2.2
    | 4 => cond (Nat.beq p.2.1 a.2.1) (eeq env (asub σ p.2.2) a.2.2) false
    | 5 => true
    | 6 => Nat.beq p.2.1 a.2.1
    | 10 => true
    | _ => false) false
theorem avok_ok {tyt : Lean.RArray (Nat × Nat)} {env : aenv} {ρ : Nat → Int} {σ : List ae} (hE : envR env ρ) : ∀ {p a : av} {v : cv}, avok env σ p a = true → avR tyt ρ a v → avR tyt (asρ ρ σ) p v := by
  intro p a v h ha
  obtain ⟨pt, pty, pe⟩ := p
  obtain ⟨at', aty', ae'⟩ := a
  obtain ⟨h1, h2⟩ := xcnb h
  have h1 : pt = at' := xeqb h1
  subst h1
  have ee : eeq env (asub σ pe) ae' = true → ev (asρ ρ σ) pe = ev ρ ae' := fun q => by rw [← asub_ev]; exact eeq_ok hE q
  match pt, h2, ha with
  | 0, h2, ha =>
    have e := ee h2
    exact ⟨by rw [e]; exact ha.1, by rw [e]; exact ha.2⟩
  | 1, h2, ha => cases h2
  | 2, h2, ha =>
    have e := ee h2
    exact ⟨by rw [e]; exact ha.1, by rw [e]; exact ha.2⟩
  | 3, h2, ha => cases h2
  | 4, h2, ha =>
    obtain ⟨h3, h4⟩ := xcnb (show cond (Nat.beq pty aty') (eeq env (asub σ pe) ae') false = true from h2)
    have h3 : pty = aty' := xeqb h3
    subst h3
    obtain ⟨k, k1, k2, k3⟩ := ha
    exact ⟨k, k1, (ee h4).trans k2, k3⟩
  | 5, h2, ha => exact ha
  | 6, h2, ha =>
    have h3 : pty = aty' := xeqb h2
    subst h3
    exact ha
  | 7, h2, ha => cases h2
  | 8, h2, ha => cases h2
  | 9, h2, ha => cases h2
  | 10, h2, ha => exact ha
  | _ + 11, h2, ha => cases h2
noncomputable def aokS (env : aenv) (σ : List ae) : List av → List av → Bool
  | [], [] => true
  | p :: l, a :: m => cond (avok env σ p a) (aokS env σ l m) false
  | _, _ => false
noncomputable def aokL (env : aenv) (σ : List ae) (ls : List (Nat × av)) : List (Nat × av) → Bool
  | [] => true
  | p :: l => match alk ls p.1 with
    | none => false
    | some a => cond (avok env σ p.2 a) (aokL env σ ls l) false
noncomputable def aokR (env : aenv) (σ : List ae) : Option av → Option av → Bool
  | none, none => true
  | some p, some a => avok env σ p a
  | _, _ => false
noncomputable def aokM (env : aenv) (σ : List ae) (mem : List am) : List am → Bool
  | [] => true
  | m :: l => match amg env m.1 (asub σ m.2.1) (asub σ m.2.2.1) mem with
    | none => false
    | some a => cond (avok env σ m.2.2.2 a) (aokM env σ mem l) false
noncomputable def aokE (env : aenv) (fx : List ae) : List ae → List (Int × Int) → Bool
  | _, [] => true
  | e :: σ, i :: l => cond (efit env fx e i.1 i.2) (aokE env fx σ l) false
  | [], _ :: _ => false
noncomputable def aokF (env : aenv) (fx : List ae) (σ : List ae) : List ae → Bool
  | [] => true
  | f :: l => cond (efrc (asub σ f) (fun x => elef env fx 2 x)) (aokF env fx σ l) false
/-- the first p symbols stand for themselves -/
def aokI : Nat → Nat → List ae → Bool
  | 0, _, _ => true
  | n + 1, s, e :: σ => cond (eeqb e (esym s)) (aokI n (s + 1) σ) false
  | _ + 1, _, [] => false
theorem aokI_ok {ρ : Nat → Int} : ∀ (n s : Nat) (σ : List ae), aokI n s σ = true → ∀ i : Nat, i < n → asρ ρ σ i = ρ (s + i)
  | 0, _, _, _, i, hi => absurd hi (Nat.not_lt_zero i)
  | n + 1, s, [], h, _, _ => by cases h
  | n + 1, s, e :: σ, h, i, hi => by
    obtain ⟨h1, h2⟩ := xcnb (show cond (eeqb e (esym s)) (aokI n (s + 1) σ) false = true from h)
    cases i with
    | zero =>
      show ev ρ e = ρ s
      rw [eeqb_ok h1, esym_ev]
    | succ i =>
      have := aokI_ok (ρ := ρ) n (s + 1) σ h2 i (by omega)
      show asρ ρ σ i = _
      rw [this]
      congr 1
      omega
theorem amg_okT {h0 : xheap} {tyt : Lean.RArray (Nat × Nat)} {env : aenv} {ρ : Nat → Int} {g : cg} (hE : envR env ρ) {t : Nat} {c i : ae} : ∀ {mem : List am} {v : av}, amsR h0 tyt ρ g mem → amg env t c i mem = some v → ∃ (k j : Nat) (w : cv), ev ρ c = (k : Int) ∧ ev ρ i = (j : Int) ∧ cat h0 g k j w ∧ avR tyt ρ v w ∧ xg tyt k = some t
  | [], _, _, h => by cases h
  | m :: l, v, hm, h => by
    have hl : amsR h0 tyt ρ g l := fun x hx => hm x (List.mem_cons_of_mem _ hx)
    have h : cond (Nat.beq m.1 t) (cond (eeq env m.2.1 c) (cond (eeq env m.2.2.1 i) (some m.2.2.2) (amg env t c i l)) (amg env t c i l)) (amg env t c i l) = some v := h
    cases h1 : Nat.beq m.1 t with
    | false => rw [h1] at h; exact amg_okT hE hl h
    | true =>
      rw [h1] at h
      cases h2 : eeq env m.2.1 c with
      | false => rw [h2] at h; exact amg_okT hE hl h
      | true =>
        rw [h2] at h
        cases h3 : eeq env m.2.2.1 i with
        | false => rw [h3] at h; exact amg_okT hE hl h
        | true =>
          rw [h3] at h
          have e : m.2.2.2 = v := Option.some.inj h
          obtain ⟨k, j, w, a1, a2, a3, a4, a5⟩ := hm m List.mem_cons_self
          exact ⟨k, j, w, by rw [← eeq_ok hE h2]; exact a1, by rw [← eeq_ok hE h3]; exact a2, a4, by rw [← e]; exact a5, by rw [← xeqb h1]; exact a3⟩
section Ent
variable {h0 : xheap} {tyt : Lean.RArray (Nat × Nat)} {env : aenv} {fx : List ae} {ρ : Nat → Int} {σ : List ae}
theorem aokS_ok (hE : envR env ρ) : ∀ {p a : List av} {stc : List cv}, aokS env σ p a = true → stR tyt ρ a stc → stR tyt (asρ ρ σ) p stc
  | [], [], [], _, _ => trivial
  | [], [], _ :: _, _, h => h.elim
  | [], _ :: _, _, h, _ => by cases h
  | _ :: _, [], _, h, _ => by cases h
  | _ :: _, _ :: _, [], _, h => h.elim
  | p :: l, a :: m, v :: n, h, k => by
    obtain ⟨h1, h2⟩ := xcnb (show cond (avok env σ p a) (aokS env σ l m) false = true from h)
    exact ⟨avok_ok hE h1 k.1, aokS_ok hE h2 k.2⟩
theorem clk_mem : ∀ {l : List (Nat × cv)} {i : Nat} {v : cv}, clk l i = some v → (i, v) ∈ l
  | [], _, _, h => by cases h
  | q :: l, i, v, h => by
    have h : cond (Nat.beq q.1 i) (some q.2) (clk l i) = some v := h
    cases hb : Nat.beq q.1 i with
    | true =>
      rw [hb] at h
      have e1 := xeqb hb
      have e2 : q.2 = v := Option.some.inj h
      have : q = (i, v) := by rw [← e1, ← e2]
      rw [this]; exact List.mem_cons_self
    | false => rw [hb] at h; exact List.mem_cons_of_mem _ (clk_mem h)
theorem aokL_ok (hE : envR env ρ) {ls : List (Nat × av)} {lsc : List (Nat × cv)} (hl : lsR tyt ρ ls lsc) : ∀ {p : List (Nat × av)}, aokL env σ ls p = true → ∃ lsc', lsR tyt (asρ ρ σ) p lsc' ∧ ∀ q ∈ lsc', q ∈ lsc
  | [], _ => ⟨[], trivial, fun _ h => absurd h List.not_mem_nil⟩
  | p :: l, h => by
    unfold aokL at h
    cases ha : alk ls p.1 with
    | none => rw [ha] at h; cases h
    | some a =>
      rw [ha] at h
      obtain ⟨h1, h2⟩ := xcnb h
      obtain ⟨lsc', k1, k2⟩ := aokL_ok hE hl h2
      obtain ⟨v, e1, e2⟩ := lsR_lk hl ha
      refine ⟨(p.1, v) :: lsc', ⟨rfl, avok_ok hE h1 e2, k1⟩, fun q hq => ?_⟩
      rcases List.mem_cons.mp hq with e | hq
      · rw [e]; exact clk_mem e1
      · exact k2 q hq
theorem aokR_ok (hE : envR env ρ) : ∀ {p a : Option av} {v : Option cv}, aokR env σ p a = true → rvR tyt ρ a v → rvR tyt (asρ ρ σ) p v
  | none, none, none, _, _ => trivial
  | none, none, some _, _, h => h.elim
  | none, some _, _, h, _ => by cases h
  | some _, none, _, h, _ => by cases h
  | some _, some _, none, _, h => h.elim
  | some p, some a, some v, h, k => avok_ok hE h k
theorem aokM_ok (hE : envR env ρ) {g : cg} {mem : List am} (hm : amsR h0 tyt ρ g mem) : ∀ {p : List am}, aokM env σ mem p = true → amsR h0 tyt (asρ ρ σ) g p
  | [], _ => fun _ h => absurd h List.not_mem_nil
  | m :: l, h => by
    unfold aokM at h
    cases ha : amg env m.1 (asub σ m.2.1) (asub σ m.2.2.1) mem with
    | none => rw [ha] at h; cases h
    | some a =>
      rw [ha] at h
      obtain ⟨h1, h2⟩ := xcnb h
      have ih := aokM_ok hE hm h2
      intro x hx
      rcases List.mem_cons.mp hx with e | hx
      · rw [e]
        obtain ⟨k, j, w, a1, a2, a3, a4, a5⟩ := amg_okT hE hm ha
        exact ⟨k, j, w, by rw [← asub_ev]; exact a1, by rw [← asub_ev]; exact a2, a5, a3, avok_ok hE h1 a4⟩
      · exact ih x hx
theorem aokE_ok (hE : envR env ρ) (hF : fxR fx ρ) : ∀ {σ : List ae} {l : List (Int × Int)}, aokE env fx σ l = true → aivR l (asρ ρ σ)
  | _, [], _ => fun s i h => by cases h
  | [], _ :: _, h => by cases h
  | e :: σ, i :: l, h => by
    obtain ⟨h1, h2⟩ := xcnb (show cond (efit env fx e i.1 i.2) (aokE env fx σ l) false = true from h)
    intro s j hs
    cases s with
    | zero =>
      have e1 : i = j := Option.some.inj hs
      subst e1
      exact efit_ok hE hF h1
    | succ s => exact aokE_ok hE hF h2 s j hs
theorem aokF_ok (hE : envR env ρ) (hF : fxR fx ρ) : ∀ {l : List ae}, aokF env fx σ l = true → fxR l (asρ ρ σ)
  | [], _ => fun _ h => absurd h List.not_mem_nil
  | f :: l, h => by
    obtain ⟨h1, h2⟩ := xcnb (show cond (efrc (asub σ f) (fun x => elef env fx 2 x)) (aokF env fx σ l) false = true from h)
    rw [efrc_eq] at h1
    intro x hx
    rcases List.mem_cons.mp hx with e | hx
    · rw [e, ← asub_ev]; exact elef_ok hE hF 2 _ h1
    · exact aokF_ok hE hF h2 x hx
end Ent
end
section
/-! Finding what a pattern's symbols stand for; checking it -/
/-- symbols below n -/
def ewf (n : Nat) : List (Nat × Int) → Bool
  | [] => true
  | q :: l => cond (Nat.blt q.1 n) (ewf n l) false
theorem ewf_evl {n : Nat} {ρ τ : Nat → Int} (ha : aag n ρ τ) : ∀ {l : List (Nat × Int)}, ewf n l = true → evl τ l = evl ρ l
  | [], _ => rfl
  | q :: l, h => by
    obtain ⟨h1, h2⟩ := xcnb (show cond (Nat.blt q.1 n) (ewf n l) false = true from h)
    show q.2 * τ q.1 + evl τ l = q.2 * ρ q.1 + evl ρ l
    rw [ha q.1 (xltb h1), ewf_evl ha h2]
theorem ewf_ev {n : Nat} {ρ τ : Nat → Int} (ha : aag n ρ τ) {e : ae} (h : ewf n e.2 = true) : ev τ e = ev ρ e := by
  unfold ev
  rw [ewf_evl ha h]
def aset : List (Option ae) → Nat → ae → List (Option ae)
  | [], _, _ => []
  | _ :: l, 0, e => some e :: l
  | q :: l, n + 1, e => q :: aset l n e
def apar (σ : List (Option ae)) : List (Nat × Int) → ae → List (Nat × Int) → ae × List (Nat × Int)
  | [], acc, u => (acc, u)
  | q :: l, acc, u => match agt σ q.1 with
    | some (some e) => apar σ l (eadd acc e q.2) u
    | _ => apar σ l acc (q :: u)
noncomputable def abd1 (σ : List (Option ae)) (p a : av) (k : List (Option ae) → Bool) : Bool :=
  match p.2.2.2 with
  | [] => k σ
  | _ => match apar σ p.2.2.2 (p.2.2.1, []) [] with
    | (r, [q]) => cond (zeq q.2 1) (efrc (eadd a.2.2 r (-1)) (fun e => k (aset σ q.1 e))) (k σ)
    | _ => k σ
noncomputable def abdL (ls : List (Nat × av)) : List (Nat × av) → List (Option ae) → (List (Option ae) → Bool) → Bool
  | [], σ, k => k σ
  | p :: l, σ, k => match alk ls p.1 with
    | none => false
    | some a => abd1 σ p.2 a (fun σ => abdL ls l σ k)
noncomputable def abdS : List av → List av → List (Option ae) → (List (Option ae) → Bool) → Bool
  | p :: l, a :: m, σ, k => abd1 σ p a (fun σ => abdS l m σ k)
  | _, _, σ, k => k σ
noncomputable def abdR : Option av → Option av → List (Option ae) → (List (Option ae) → Bool) → Bool
  | some p, some a, σ, k => abd1 σ p a k
  | _, _, σ, k => k σ
def afin : List (Option ae) → List ae
  | [] => []
  | q :: l => (match q with
    | none => (0, [])
    | some e => e) :: afin l
/-- the first p stand for themselves, n in all -/
def aidn : Nat → Nat → Nat → List (Option ae)
  | 0, _, _ => []
  | n + 1, 0, _ => none :: aidn n 0 0
  | n + 1, p + 1, s => some (esym s) :: aidn n p (s + 1)
section EntD
variable (h0 : xheap) (tyt : Lean.RArray (Nat × Nat)) (typs : Lean.RArray (Nat × aty)) (HK : aenv → List ae → List am → List gho → Nat → ae → ae → Int × Int → Int × Int) (HH : aenv → List ae → List am → List gho → gho → Bool)
/-- the pattern's places are looked at -/
noncomputable def aens (fx : List ae) (gh : List gho) : List am → List (Option ae) → List am → aenv → Nat → (List (Option ae) → List am → aenv → Nat → Bool) → Bool
  | [], σ, mem, env, ne, k => k σ mem env ne
  | m :: l, σ, mem, env, ne, k => efrc (enor env (asub (afin σ) m.2.1)) (fun c => efrc (enor env (asub (afin σ) m.2.2.1)) (fun i => match amg env m.1 c i mem with
    | some v => abd1 σ m.2.2.2 v (fun σ => aens fx gh l σ mem env ne k)
    | none => match c.2 with
      | [] => (match xg tyt c.1.toNat with
        | none => false
        | some t => match xg typs t with
          | none => false
          | some T => cond (Nat.beq t m.1 && (zle 0 c.1 && (ewf ne i.2 && efit env fx i 0 (Int.add (T.2.1 : Int) (-1))))) (aload h0 typs HK t c i mem env fx gh ne (fun v mem env ne => abd1 σ m.2.2.2 v (fun σ => aens fx gh l σ mem env ne k))) false)
      | _ => false))
noncomputable def aokG (env : aenv) (fx : List ae) (mem : List am) (gh : List gho) (σ : List ae) : List gho → Bool
  | [] => true
  | x :: l => cond (cond (cond (Nat.beq x.1 50) true (Nat.beq x.1 51)) (eeqb (asgt σ x.2.1) (esym x.2.1)) true) (cond (HH env fx mem gh (x.1, x.2.1, x.2.2.1, asub σ x.2.2.2)) (aokG env fx mem gh σ l) false) false
noncomputable def aokM0 (env : aenv) (fx : List ae) (σ : List ae) (M : Option ae) (m : ae) : Bool := match M with
  | none => true
  | some m0 => efrc (asub σ m) (fun x => cond (elef env fx 2 (escl x (-1))) (efrc (eadc (eadd x m0 (-1)) 1) (fun z => elef env fx 2 z)) false)
noncomputable def achk (p : Nat) (P : apat) (M : Option ae) (σ : List ae) (ls : List (Nat × av)) (st : List av) (rv : Option av) (mem : List am) (env : aenv) (fx : List ae) (gh : List gho) : Bool :=
  cond (aokI p 0 σ) (cond (aokL env σ ls P.1) (cond (aokS env σ P.2.1 st) (cond (aokR env σ P.2.2.1 rv) (cond (aokM env σ mem P.2.2.2.1) (cond (aokE env fx σ P.2.2.2.2.1) (cond (aokF env fx σ P.2.2.2.2.2.1) (cond (aokG HH env fx mem gh σ P.2.2.2.2.2.2.1) (aokM0 env fx σ M P.2.2.2.2.2.2.2) false) false) false) false) false) false) false) false
noncomputable def aent (p : Nat) (P : apat) (M : Option ae) (ls : List (Nat × av)) (st : List av) (rv : Option av) (mem : List am) (env : aenv) (fx : List ae) (gh : List gho) (ne : Nat) (k : List ae → List am → aenv → Nat → Bool) : Bool :=
  abdL ls P.1 (aidn P.2.2.2.2.1.length p 0) (fun σ => abdS P.2.1 st σ (fun σ => abdR P.2.2.1 rv σ (fun σ => aens h0 tyt typs HK fx gh P.2.2.2.1 σ mem env ne (fun σ mem env ne => cond (achk HH p P M (afin σ) ls st rv mem env fx gh) (k (afin σ) mem env ne) false))))
end EntD
theorem abd1_ok {σ : List (Option ae)} {p a : av} {k : List (Option ae) → Bool} (h : abd1 σ p a k = true) : ∃ σ', k σ' = true := by
  unfold abd1 at h
  split at h
  · exact ⟨_, h⟩
  · split at h
    · rename_i r q e
      cases hz : zeq q.2 1 with
      | true => rw [hz] at h; simp only [cond_true] at h; rw [efrc_eq] at h; exact ⟨_, h⟩
      | false => rw [hz] at h; exact ⟨_, h⟩
    · exact ⟨_, h⟩
theorem abdL_ok {ls : List (Nat × av)} : ∀ {p : List (Nat × av)} {σ : List (Option ae)} {k : List (Option ae) → Bool}, abdL ls p σ k = true → ∃ σ', k σ' = true
  | [], σ, k, h => ⟨σ, h⟩
  | p :: l, σ, k, h => by
    unfold abdL at h
    cases ha : alk ls p.1 with
    | none => rw [ha] at h; cases h
    | some a =>
      rw [ha] at h
      obtain ⟨σ', h1⟩ := abd1_ok h
      exact abdL_ok h1
theorem abdS_ok : ∀ {p a : List av} {σ : List (Option ae)} {k : List (Option ae) → Bool}, abdS p a σ k = true → ∃ σ', k σ' = true
  | [], _, σ, k, h => ⟨σ, h⟩
  | _ :: _, [], σ, k, h => ⟨σ, h⟩
  | p :: l, a :: m, σ, k, h => by
    obtain ⟨σ', h1⟩ := abd1_ok (show abd1 σ p a (fun σ => abdS l m σ k) = true from h)
    exact abdS_ok h1
theorem abdR_ok : ∀ {p a : Option av} {σ : List (Option ae)} {k : List (Option ae) → Bool}, abdR p a σ k = true → ∃ σ', k σ' = true
  | none, none, σ, k, h => ⟨σ, h⟩
  | none, some _, σ, k, h => ⟨σ, h⟩
  | some _, none, σ, k, h => ⟨σ, h⟩
  | some p, some a, σ, k, h => abd1_ok h
section EntS
variable {h0 : xheap} {tyt : Lean.RArray (Nat × Nat)} {typs : Lean.RArray (Nat × aty)} {HK : aenv → List ae → List am → List gho → Nat → ae → ae → Int × Int → Int × Int} {HH : aenv → List ae → List am → List gho → gho → Bool}
variable {GS : gho → (Nat → Int) → cg → Prop} {fx : List ae} {gh : List gho} {g : cg}
theorem aens_ok (hW : aWd h0 tyt typs) (hHK : aHK h0 tyt GS HK) (hI : aInv tyt typs g) : ∀ {l : List am} {σ : List (Option ae)} {mem : List am} {env : aenv} {ne : Nat} {k : List (Option ae) → List am → aenv → Nat → Bool} {ρ : Nat → Int}, aens h0 tyt typs HK fx gh l σ mem env ne k = true → aC ne ρ (coR h0 tyt GS env fx mem gh g) → ∃ σ' mem' env' ne' ρ', k σ' mem' env' ne' = true ∧ ne ≤ ne' ∧ aag ne ρ ρ' ∧ aC ne' ρ' (coR h0 tyt GS env' fx mem' gh g)
  | [], σ, mem, env, ne, k, ρ, h, hC => ⟨σ, mem, env, ne, ρ, h, Nat.le_refl _, aag.rf _ _, hC⟩
  | m :: l, σ, mem, env, ne, k, ρ, h, hC => by
    unfold aens at h
    rw [efrc_eq, efrc_eq] at h
    generalize enor env (asub (afin σ) m.2.1) = c at h
    generalize enor env (asub (afin σ) m.2.2.1) = i at h
    cases hm : amg env m.1 c i mem with
    | some v =>
      rw [hm] at h
      obtain ⟨σ', h1⟩ := abd1_ok h
      exact aens_ok hW hHK hI h1 hC
    | none =>
      rw [hm] at h
      dsimp only at h
      split at h
      · rename_i hc0
        cases ht : xg tyt c.1.toNat with
        | none => rw [ht] at h; cases h
        | some t =>
          rw [ht] at h
          dsimp only at h
          obtain ⟨q, T, w1, w2, w3, w4, w5, w6, w7, w8⟩ := hW _ _ ht
          rw [w2] at h
          obtain ⟨g1, g2⟩ := xcnb h
          obtain ⟨g3, g4⟩ := xand g1
          obtain ⟨g5, g6⟩ := xand g4
          obtain ⟨g7, g6⟩ := xand g6
          have g5 := zle_iff.mp g5
          have hc : ∀ τ : Nat → Int, ev τ c = (c.1.toNat : Int) := fun τ => by
            have : ev τ c = c.1 := by unfold ev; rw [hc0]; show _ + 0 = _; omega
            omega
          have hb := efit_ok hC.self.1 hC.self.2.1 g6
          have hb2 : ev ρ i ≤ (T.2.1 : Int) + -1 := hb.2
          obtain ⟨j, hj⟩ : ∃ j : Nat, ev ρ i = (j : Int) := ⟨(ev ρ i).toNat, by omega⟩
          have hjl : j < q.2.1 := by omega
          obtain ⟨w, u, u1, u2, u3, u4⟩ := w8 j hjl
          obtain ⟨v, mem', env', ne', ρ', h1, h2, h3, h4, h5⟩ := aload_ok hW hHK hI hC (fun τ hτ => ⟨hc τ, (ewf_ev hτ g7).trans hj⟩) ht ⟨q, w, w1, u1, rfl⟩ w1 hjl g2
          obtain ⟨σ', k1⟩ := abd1_ok h1
          obtain ⟨σ2, mem2, env2, ne2, ρ2, m1, m2, m3, m4⟩ := aens_ok hW hHK hI k1 h4
          exact ⟨σ2, mem2, env2, ne2, ρ2, m1, Nat.le_trans h2 m2, aag.tr h2 h3 m3, m4⟩
      · cases h
/-- ghosts: by a number, by the script -/
def aGSd (sv : Nat → Int32) (el : Nat → Nat) (GH : Nat → Nat → Nat → Int → cg → Prop) (x : gho) (ρ : Nat → Int) (g : cg) : Prop :=
  match x.1 with
  | 50 => ∃ n : Nat, ev ρ x.2.2.2 = (n : Int) ∧ (sv n).toInt = ρ x.2.1
  | 51 => ρ x.2.1 = (el 0 : Int)
  | k => GH k x.2.1 x.2.2.1 (ev ρ x.2.2.2) g
theorem aGSd_0 {sv : Nat → Int32} {el ec : Nat → Nat} {GH : Nat → Nat → Nat → Int → cg → Prop} (hl : el 0 < 2147483648 ∧ ∀ k : Nat, k = 2 ∨ k = 4 → ec k = el k) : aGS0 sv el ec (aGSd sv el GH) := by
  refine ⟨fun x ρ g h => ?_, fun x ρ g h => ?_, hl⟩
  · unfold aGSd; rw [h]; exact Iff.rfl
  · unfold aGSd; rw [h]; exact Iff.rfl
theorem aGSd_sub {sv : Nat → Int32} {el : Nat → Nat} {GH : Nat → Nat → Nat → Int → cg → Prop} {x : gho} {ρ ρ' : Nat → Int} {e : ae} (h1 : x.1 = 50 ∨ x.1 = 51 → ρ' x.2.1 = ρ x.2.1) (h2 : ev ρ e = ev ρ' x.2.2.2) (h : aGSd sv el GH (x.1, x.2.1, x.2.2.1, e) ρ g) : aGSd sv el GH x ρ' g := by
  obtain ⟨k, a, b, e'⟩ := x
  unfold aGSd at h ⊢
  dsimp only at h h1 h2 ⊢
  split at h
  · rename_i hk
    obtain ⟨n, n1, n2⟩ := h
    exact ⟨n, by rw [← h2]; exact n1, by rw [h1 (Or.inl rfl)]; exact n2⟩
  · show ρ' a = _
    rw [h1 (Or.inr rfl)]; exact h
  · rename_i n1 n2
    rw [h2] at h
    exact h
def aHH (h0 : xheap) (tyt : Lean.RArray (Nat × Nat)) (GS : gho → (Nat → Int) → cg → Prop) (HH : aenv → List ae → List am → List gho → gho → Bool) : Prop := ∀ (env : aenv) (fx : List ae) (mem : List am) (gh : List gho) (x : gho) (g : cg) (ρ : Nat → Int), HH env fx mem gh x = true → coR h0 tyt GS env fx mem gh g ρ → GS x ρ g
variable {sv : Nat → Int32} {el : Nat → Nat} {GH : Nat → Nat → Nat → Int → cg → Prop}
theorem aokG_ok (hHH : aHH h0 tyt (aGSd sv el GH) HH) {env : aenv} {mem : List am} {σ : List ae} {ρ : Nat → Int} (hC : coR h0 tyt (aGSd sv el GH) env fx mem gh g ρ) : ∀ {l : List gho}, aokG HH env fx mem gh σ l = true → ghR (aGSd sv el GH) l (asρ ρ σ) g
  | [], _ => fun _ h => absurd h List.not_mem_nil
  | x :: l, h => by
    unfold aokG at h
    obtain ⟨h1, h2⟩ := xcnb h
    obtain ⟨h3, h4⟩ := xcnb h2
    intro z hz
    rcases List.mem_cons.mp hz with e | hz
    · rw [e]
      refine aGSd_sub (fun hk => ?_) (asub_ev ρ σ _) (hHH env fx mem gh _ g ρ h3 hC)
      have hb : cond (Nat.beq x.1 50) true (Nat.beq x.1 51) = true := by
        rcases hk with q | q <;> rw [q] <;> rfl
      rw [hb] at h1
      show ev ρ (asgt σ x.2.1) = _
      rw [eeqb_ok h1, esym_ev]
    · exact aokG_ok hHH hC h4 z hz
theorem achk_ok (hHH : aHH h0 tyt (aGSd sv el GH) HH) {p : Nat} {P : apat} {M : Option ae} {σ : List ae} {ls : List (Nat × av)} {st : List av} {rv : Option av} {env : aenv} {mem : List am} {ρ : Nat → Int} {lsc : List (Nat × cv)} {stc : List cv} {rvc : Option cv} (hC : coR h0 tyt (aGSd sv el GH) env fx mem gh g ρ) (hl : lsR tyt ρ ls lsc) (hs : stR tyt ρ st stc) (hr : rvR tyt ρ rv rvc) (h : achk HH p P M σ ls st rv mem env fx gh = true) :
    aag p ρ (asρ ρ σ) ∧ (∃ lsc', (∀ q ∈ lsc', q ∈ lsc) ∧ patR h0 tyt (aGSd sv el GH) P (asρ ρ σ) g lsc' stc rvc) ∧ ∀ m0, M = some m0 → 0 ≤ ev (asρ ρ σ) P.2.2.2.2.2.2.2 ∧ ev (asρ ρ σ) P.2.2.2.2.2.2.2 < ev ρ m0 := by
  unfold achk at h
  obtain ⟨h1, h⟩ := xcnb h
  obtain ⟨h2, h⟩ := xcnb h
  obtain ⟨h3, h⟩ := xcnb h
  obtain ⟨h4, h⟩ := xcnb h
  obtain ⟨h5, h⟩ := xcnb h
  obtain ⟨h6, h⟩ := xcnb h
  obtain ⟨h7, h⟩ := xcnb h
  obtain ⟨h8, h9⟩ := xcnb h
  obtain ⟨hE, hF, hm, hg⟩ := id hC
  obtain ⟨lsc', l1, l2⟩ := aokL_ok hE hl h2
  refine ⟨fun s hs' => by have := aokI_ok (ρ := ρ) p 0 σ h1 s hs'; rw [this]; congr 1; omega, ⟨lsc', l2, l1, aokS_ok hE h3 hs, aokR_ok hE h4 hr, aokM_ok hE hm h5, aokE_ok hE hF h6, aokF_ok hE hF h7, aokG_ok hHH hC h8⟩, fun m0 em => ?_⟩
  subst em
  unfold aokM0 at h9
  dsimp only at h9
  rw [efrc_eq] at h9
  obtain ⟨k1, k2⟩ := xcnb h9
  rw [efrc_eq] at k2
  have k1 := elef_ok hE hF 2 _ k1
  have k2 := elef_ok hE hF 2 _ k2
  rw [escl_ev, asub_ev] at k1
  rw [eadc_ev, eadd_ev, asub_ev] at k2
  constructor <;> omega
theorem aent_ok (hW : aWd h0 tyt typs) (hHK : aHK h0 tyt (aGSd sv el GH) HK) (hHH : aHH h0 tyt (aGSd sv el GH) HH) (hI : aInv tyt typs g) {p : Nat} {P : apat} {M : Option ae} {ls : List (Nat × av)} {st : List av} {rv : Option av} {env : aenv} {mem : List am} {ne : Nat} {ρ : Nat → Int} {lsc : List (Nat × cv)} {stc : List cv} {rvc : Option cv} {k : List ae → List am → aenv → Nat → Bool} (hC : aC ne ρ (coR h0 tyt (aGSd sv el GH) env fx mem gh g)) (hl : aC ne ρ (fun τ => lsR tyt τ ls lsc)) (hs : aC ne ρ (fun τ => stR tyt τ st stc)) (hr : aC ne ρ (fun τ => rvR tyt τ rv rvc)) (h : aent h0 tyt typs HK HH p P M ls st rv mem env fx gh ne k = true) :
    ∃ σ mem' env' ne' ρ', k σ mem' env' ne' = true ∧ ne ≤ ne' ∧ aag ne ρ ρ' ∧ aC ne' ρ' (coR h0 tyt (aGSd sv el GH) env' fx mem' gh g) ∧ aag p ρ' (asρ ρ' σ) ∧ (∃ lsc', (∀ q ∈ lsc', q ∈ lsc) ∧ patR h0 tyt (aGSd sv el GH) P (asρ ρ' σ) g lsc' stc rvc) ∧ ∀ m0, M = some m0 → 0 ≤ ev (asρ ρ' σ) P.2.2.2.2.2.2.2 ∧ ev (asρ ρ' σ) P.2.2.2.2.2.2.2 < ev ρ' m0 := by
  unfold aent at h
  obtain ⟨σ1, h⟩ := abdL_ok h
  obtain ⟨σ2, h⟩ := abdS_ok h
  obtain ⟨σ3, h⟩ := abdR_ok h
  obtain ⟨σ4, mem', env', ne', ρ', h1, h2, h3, h4⟩ := aens_ok hW hHK hI h hC
  obtain ⟨h5, h6⟩ := xcnb h1
  exact ⟨afin σ4, mem', env', ne', ρ', h6, h2, h3, h4, achk_ok hHH h4.self (hl.mono h2 h3).self (hs.mono h2 h3).self (hr.mono h2 h3).self h5⟩
end EntS
end
