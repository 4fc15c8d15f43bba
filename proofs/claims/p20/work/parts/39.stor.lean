/-! Stores are right -/
theorem cup_same {g : cg} {k j : Nat} {z : Int} (h : g k j = z) : cup g k j z = g := by
  funext k' j'
  unfold cup
  split
  · rename_i e
    rw [e.1, e.2, h]
  · rfl
theorem ahit_ok {lo hi : Int} {n : ae} {c : acol} {ρ : Nat → Int} {j : Nat} (h1 : ev ρ n = (j : Int)) (h2 : lo ≤ (j : Int)) (h3 : (j : Int) ≤ hi) (h : acv c j) : ahit lo hi n c = true := by
  obtain ⟨a1, a2, a3⟩ := h
  unfold ahit
  rw [zle_iff.mpr (show c.1 ≤ hi by omega), zle_iff.mpr (show lo ≤ c.2.1 by omega)]
  simp only [cond_true]
  cases hs : zeq c.2.2.1 1 with
  | true => rfl
  | false =>
    simp only [cond_false]
    apply zeq_iff.mpr
    apply Int.emod_eq_zero_of_dvd
    have d1 : ((Nat.gcd c.2.2.1.natAbs (zgcd n.2) : Nat) : Int) ∣ c.2.2.1 := Int.dvd_natAbs.mp (Int.natCast_dvd_natCast.mpr (Nat.gcd_dvd_left _ _))
    have d2 : ((Nat.gcd c.2.2.1.natAbs (zgcd n.2) : Nat) : Int) ∣ evl ρ n.2 := Int.dvd_trans (Int.natCast_dvd_natCast.mpr (Nat.gcd_dvd_right _ _)) (zgcd_ok ρ n.2)
    have d3 : ((Nat.gcd c.2.2.1.natAbs (zgcd n.2) : Nat) : Int) ∣ ((j : Int) - c.1) := Int.dvd_trans d1 (Int.dvd_of_emod_eq_zero a3)
    have e : Int.add n.1 (Int.neg c.1) = ((j : Int) - c.1) - evl ρ n.2 := by
      show n.1 + -c.1 = _
      have : ev ρ n = n.1 + evl ρ n.2 := rfl
      omega
    rw [e]
    exact Int.dvd_sub d3 d2
section Stor
variable {h0 : xheap} {tyt : Lean.RArray (Nat × Nat)} {typs : Lean.RArray (Nat × aty)} {GS : gho → (Nat → Int) → cg → Prop} {HS : aenv → List ae → List am → List gho → Nat → ae → ae → av → List gho} {WOK : aenv → List ae → Nat → ae → ae → Bool} {wc : Nat → Nat → Prop}
def aHS (h0 : xheap) (tyt : Lean.RArray (Nat × Nat)) (GS : gho → (Nat → Int) → cg → Prop) (HS : aenv → List ae → List am → List gho → Nat → ae → ae → av → List gho) : Prop := ∀ (env : aenv) (fx : List ae) (mem : List am) (gh : List gho) (g : cg) (ρ : Nat → Int) (t : Nat) (c i : ae) (v : av) (k j : Nat), coR h0 tyt GS env fx mem gh g ρ → ev ρ c = (k : Int) → ev ρ i = (j : Int) → xg tyt k = some t → (∃ w, cat h0 g k j w ∧ (w.1 = 0 ∨ w.1 = 2)) → ghR GS (HS env fx mem gh t c i v) ρ (cup g k j (ev ρ v.2.2))
def aWOK (tyt : Lean.RArray (Nat × Nat)) (WOK : aenv → List ae → Nat → ae → ae → Bool) (wc : Nat → Nat → Prop) : Prop := ∀ (env : aenv) (fx : List ae) (t : Nat) (c i : ae) (ρ : Nat → Int) (k j : Nat), WOK env fx t c i = true → envR env ρ → fxR fx ρ → ev ρ c = (k : Int) → ev ρ i = (j : Int) → xg tyt k = some t → wc k j
theorem cval_1 : ∀ (w : xv) (z : Int), (cval w z).1 = w.1
  | (0, _), _ => rfl
  | (1, _), _ => rfl
  | (2, _), _ => rfl
  | (_ + 3, _), _ => rfl
theorem avR_num {τ : Nat → Int} {a : av} {w : xv} {z : Int} (h : avR tyt τ a (cval w z)) (ht : a.1 = 0 ∨ a.1 = 2) : z = ev τ a.2.2 := by
  have hw : w.1 = 0 ∨ w.1 = 2 := by
    rcases ht with e | e
    · have := congrArg Prod.fst (avR_int h e).1
      rw [cval_1] at this; exact Or.inl this
    · have := congrArg Prod.fst (avR_lng h e).1
      rw [cval_1] at this; exact Or.inr this
  obtain ⟨t, n⟩ := w
  have hz : (cval (t, n) z).2 = z := by rcases hw with e | e <;> (have e : t = _ := e; subst e; rfl)
  rcases ht with e | e
  · have := congrArg Prod.snd (avR_int h e).1
    rw [hz] at this; exact this
  · have := congrArg Prod.snd (avR_lng h e).1
    rw [hz] at this; exact this
theorem acpr_ok {env : aenv} {mem : List am} {t : Nat} {c i e : ae} {cols : List (Int × Int × List acol)} {b : Int × Int × List acol} {col : acol} {ρ : Nat → Int} {g : cg} {kc j : Nat} (hE : envR env ρ) (hm : amsR h0 tyt ρ g mem) (hc : ev ρ c = (kc : Int)) (hi : ev ρ i = (j : Int)) (hI : ∀ b ∈ cols, ∀ c ∈ b.2.2, ∀ j : Nat, b.1 ≤ (j : Int) → (j : Int) ≤ b.2.1 → acv c j → c.2.2.2.1 ≤ g kc j ∧ g kc j ≤ c.2.2.2.2) (hb1 : b.1 ≤ (j : Int)) (hb2 : (j : Int) ≤ b.2.1) (ha : acv col j) (h : acpr env mem t c i e cols b col = true) : col.2.2.2.1 ≤ ev ρ e ∧ ev ρ e ≤ col.2.2.2.2 := by
  unfold acpr at h
  obtain ⟨m, hmm, h⟩ := List.any_eq_true.mp h
  obtain ⟨h1, h⟩ := xcnb h
  obtain ⟨h2, h⟩ := xcnb h
  obtain ⟨h3, h⟩ := xcnb h
  obtain ⟨h4, h⟩ := xcnb h
  rw [efrc_eq] at h
  have ht : m.2.2.2.1 = 0 ∨ m.2.2.2.1 = 2 := (xcnt h2).imp xeqb xeqb
  obtain ⟨k', j', v, a1, a2, a3, ⟨q, w, b1, b2, b3⟩, a5⟩ := hm m hmm
  have ek : k' = kc := by have := eeq_ok hE h4; omega
  subst ek
  subst b3
  have hv := avR_num a5 ht
  rw [eeqb_ok h3] at hv
  have hd := enor_ok hE (eadd m.2.2.1 i (-1))
  rw [eadd_ev, a2, hi] at hd
  generalize enor env (eadd m.2.2.1 i (-1)) = dd at h hd
  split at h
  · rename_i hn
    have hdv : dd.1 = (j' : Int) - (j : Int) := by
      have : ev ρ dd = dd.1 := by unfold ev; rw [hn]; show _ + 0 = _; omega
      omega
    unfold acol2 at h
    obtain ⟨b2', hb2', h⟩ := List.any_eq_true.mp h
    obtain ⟨l1, h⟩ := xcnb h
    obtain ⟨l2, h⟩ := xcnb h
    obtain ⟨c2, hc2, h⟩ := List.any_eq_true.mp h
    obtain ⟨l3, h⟩ := xcnb h
    obtain ⟨l4, h⟩ := xcnb h
    obtain ⟨l5, h⟩ := xcnb h
    obtain ⟨l6, l7⟩ := xcnb h
    have l1 : b2'.1 = b.1 + dd.1 := zeq_iff.mp l1
    have l2 : b2'.2.1 = b.2.1 + dd.1 := zeq_iff.mp l2
    have l3 : c2.1 = col.1 + dd.1 := zeq_iff.mp l3
    have l4 : c2.2.1 = col.2.1 + dd.1 := zeq_iff.mp l4
    have l5 : c2.2.2.1 = col.2.2.1 := zeq_iff.mp l5
    have l6 := zle_iff.mp l6
    have l7 := zle_iff.mp l7
    obtain ⟨x1, x2, x3⟩ := ha
    have := hI b2' hb2' c2 hc2 j' (by omega) (by omega) ⟨by omega, by omega, by rw [l5, l3, show (j' : Int) - (col.1 + dd.1) = (j : Int) - col.1 by omega]; exact x3⟩
    rw [hv] at this
    omega
  · cases h
theorem acok_ok {env : aenv} {fx : List ae} {mem : List am} {t : Nat} {c i e : ae} {lo hi : Int} {cols : List (Int × Int × List acol)} {ρ : Nat → Int} {g : cg} {kc j : Nat} (hE : envR env ρ) (hFx : fxR fx ρ) (hm : amsR h0 tyt ρ g mem) (hc : ev ρ c = (kc : Int)) (hi' : ev ρ i = (j : Int)) (h2 : lo ≤ (j : Int)) (h3 : (j : Int) ≤ hi) (hI : ∀ b ∈ cols, ∀ c ∈ b.2.2, ∀ j : Nat, b.1 ≤ (j : Int) → (j : Int) ≤ b.2.1 → acv c j → c.2.2.2.1 ≤ g kc j ∧ g kc j ≤ c.2.2.2.2) (h : acok env fx mem t c i lo hi e cols = true) : ∀ b ∈ cols, ∀ col ∈ b.2.2, b.1 ≤ (j : Int) → (j : Int) ≤ b.2.1 → acv col j → col.2.2.2.1 ≤ ev ρ e ∧ ev ρ e ≤ col.2.2.2.2 := by
  intro b hb col hcol b1 b2 ha
  unfold acok at h
  have h := List.all_eq_true.mp h b hb
  rw [zle_iff.mpr (show b.1 ≤ hi by omega), zle_iff.mpr (show lo ≤ b.2.1 by omega)] at h
  simp only [cond_true] at h
  have h := List.all_eq_true.mp h col hcol
  rw [ahit_ok hi' h2 h3 ha] at h
  simp only [cond_true] at h
  rcases xcnt h with h | h
  · exact efit_ok hE hFx h
  · exact acpr_ok hE hm hc hi' hI b1 b2 ha h
theorem astor_ok (hW : aWd h0 tyt typs) (hHS : aHS h0 tyt GS HS) (hWO : aWOK tyt WOK wc) {t : Nat} {c0 i0 : ae} {v : av} {mem : List am} {env : aenv} {fx : List ae} {gh : List gho} {ne : Nat} {k : List am → List gho → Bool} {ρ : Nat → Int} {g : cg} (hI : aInv tyt typs g) {kc j : Nat}
    (hC : aC ne ρ (coR h0 tyt GS env fx mem gh g)) (hp0 : aC ne ρ (fun τ => ev τ c0 = (kc : Int) ∧ ev τ i0 = (j : Int))) (ht : xg tyt kc = some t) {q : xcell} {w : xv} (hq : xg h0 kc = some q) (hj : j < q.2.1) (hw : xg q.2.2 j = some w) {v0 : cv} (hv : aC ne ρ (fun τ => avR tyt τ v v0)) (hvt : v.1 = w.1) (hwt : w.1 = 0 ∨ w.1 = 2)
    (h : astor typs HS WOK t c0 i0 v mem env fx gh ne k = true) : ∃ mem' gh', k mem' gh' = true ∧ aC ne ρ (coR h0 tyt GS env fx mem' gh' (cup g kc j v0.2)) ∧ aInv tyt typs (cup g kc j v0.2) ∧ wc kc j := by
  unfold astor at h
  rw [efrc_eq, efrc_eq] at h
  have hp : aC ne ρ (fun τ => ev τ (enor env c0) = (kc : Int) ∧ ev τ (enor env i0) = (j : Int)) := fun τ hτ => by
    have := hp0 τ hτ
    have hE := (hC τ hτ).1
    exact ⟨(enor_ok hE c0).trans this.1, (enor_ok hE i0).trans this.2⟩
  generalize enor env c0 = c at h hp
  generalize enor env i0 = i at h hp
  obtain ⟨q', T, w1, w2, w3, w4, w5, w6, w7, w8⟩ := hW kc t ht
  have eq : q' = q := Option.some.inj (w1.symm.trans hq)
  subst eq
  rw [w2] at h
  dsimp only at h
  cases hu : eu env i with
  | none => rw [hu] at h; cases h
  | some hi =>
    rw [hu] at h
    dsimp only at h
    rw [efrc_eq] at h
    cases hl : eu env (escl i (-1)) with
    | none => rw [hl] at h; cases h
    | some lo =>
      rw [hl] at h
      dsimp only at h
      rw [zfrc_eq] at h
      obtain ⟨k1, h⟩ := xcnb h
      obtain ⟨k2, h⟩ := xcnb h
      have hR := hC.self
      have hpp := hp.self
      have b1 := eu_ok hR.1 hu
      have b2 := eu_ok hR.1 hl
      rw [escl_ev] at b2
      have hwc := hWO env fx t c i ρ kc j k1 hR.1 hR.2.1 hpp.1 hpp.2 ht
      have htag : v.1 = 0 ∨ v.1 = 2 := by rw [hvt]; exact hwt
      have hz : ∀ τ, aag ne ρ τ → ev τ v.2.2 = v0.2 := fun τ hτ => by
        rcases htag with e | e
        · exact (congrArg Prod.snd (avR_int (hv τ hτ) e).1).symm
        · exact (congrArg Prod.snd (avR_lng (hv τ hτ) e).1).symm
      have hv0 : v0 = cval w v0.2 := by
        obtain ⟨wt, wn⟩ := w
        have hvt : v.1 = wt := hvt
        rcases hwt with e | e
        · have e : wt = 0 := e
          subst e
          have := (avR_int hv.self hvt).1
          rw [this]; rfl
        · have e : wt = 2 := e
          subst e
          have := (avR_lng hv.self hvt).1
          rw [this]; rfl
      have hInv : aInv tyt typs (cup g kc j v0.2) := by
        intro k' t' T' ht' hT'
        by_cases hk : k' = kc
        · subst hk
          have e1 : t' = t := Option.some.inj (ht'.symm.trans ht)
          subst e1
          have e2 : T' = T := Option.some.inj (hT'.symm.trans w2)
          subst e2
          have hold := hI k' t' T' ht' hT'
          refine ⟨fun b hb cc hcc j' b1' b2' ha => ?_, fun j' u hj' hu' => ?_⟩
          · unfold cup
            by_cases ej : j' = j
            · subst ej
              rw [if_pos ⟨rfl, rfl⟩, ← hz ρ (aag.rf ne ρ)]
              exact acok_ok hR.1 hR.2.1 hR.2.2.1 hpp.1 hpp.2 (by show -lo ≤ _; omega) (by omega) hold.1 k2 b hb cc hcc b1' b2' ha
            · rw [if_neg (fun z => ej z.2)]
              exact hold.1 b hb cc hcc j' b1' b2' ha
          · unfold cup
            by_cases ej : j' = j
            · subst ej
              rw [if_pos ⟨rfl, rfl⟩]
              obtain ⟨w', u', x1, x2, x3, x4⟩ := w8 j' hj
              have e3 : w' = w := Option.some.inj (x1.symm.trans hw)
              subst e3
              have e4 : u' = u := Option.some.inj (x2.symm.trans hu')
              subst e4
              refine ⟨fun z => ?_, fun z => ?_⟩
              · have e5 : v.1 = 0 := by rw [hvt, x3]; exact z
                rw [← hz ρ (aag.rf ne ρ)]
                exact (avR_int hv.self e5).2
              · have e5 : v.1 = 2 := by rw [hvt, x3]; exact z
                rw [← hz ρ (aag.rf ne ρ)]
                exact (avR_lng hv.self e5).2
            · rw [if_neg (fun z => ej z.2)]
              exact hold.2 j' u hj' hu'
        · have e : ∀ j' : Nat, cup g kc j v0.2 k' j' = g k' j' := fun j' => by unfold cup; rw [if_neg (fun z => hk z.1)]
          have hold := hI k' t' T' ht' hT'
          refine ⟨fun b hb cc hcc j' b1' b2' ha => ?_, fun j' u hj' hu' => ?_⟩
          · rw [e]; exact hold.1 b hb cc hcc j' b1' b2' ha
          · rw [e]; exact hold.2 j' u hj' hu'
      have hput : amk env t c i mem (fun r => k ((t, c, i, v) :: r) (HS env fx mem gh t c i v)) = true → ∃ mem' gh', k mem' gh' = true ∧ aC ne ρ (coR h0 tyt GS env fx mem' gh' (cup g kc j v0.2)) ∧ aInv tyt typs (cup g kc j v0.2) ∧ wc kc j := by
        intro hk
        obtain ⟨r, e1, e2⟩ := amk_ok env t c i mem (fun r => k ((t, c, i, v) :: r) (HS env fx mem gh t c i v))
        rw [e1] at hk
        refine ⟨_, _, hk, fun τ hτ => ?_, hInv, hwc⟩
        have hRτ := hC τ hτ
        have hpτ := hp τ hτ
        refine ⟨hRτ.1, hRτ.2.1, amsR_cons ⟨kc, j, v0, hpτ.1, hpτ.2, ht, ⟨q', w, hq, hw, ?_⟩, hv τ hτ⟩ (fun m hm => amR_keep hRτ.1 hpτ.1 hpτ.2 ht (hRτ.2.2.1 m (e2 m hm).1) (e2 m hm).2), ?_⟩
        · unfold cup
          rw [if_pos ⟨rfl, rfl⟩]
          exact hv0
        · have := hHS env fx mem gh g τ t c i v kc j hRτ hpτ.1 hpτ.2 ht ⟨cval w (g kc j), ⟨q', w, hq, hw, rfl⟩, by rw [cval_1]; exact hwt⟩
          rw [hz τ hτ] at this
          exact this
      cases hm : amg env t c i mem with
      | none => rw [hm] at h; exact hput h
      | some old =>
        rw [hm] at h
        dsimp only at h
        cases hb : (Nat.beq old.1 v.1 && eeq env old.2.2 v.2.2) with
        | false => rw [hb] at h; exact hput h
        | true =>
          rw [hb] at h
          obtain ⟨l1, l2⟩ := xand hb
          have hsame : g kc j = v0.2 := by
            obtain ⟨k', j', wv, a1, a2, a3, a4⟩ := amg_ok hR.1 hR.2.2.1 hm
            have e1 : k' = kc := by have := hpp.1; omega
            have e2 : j' = j := by have := hpp.2; omega
            subst e1; subst e2
            obtain ⟨qq, ww, c1, c2, c3⟩ := a3
            have e3 : qq = q' := Option.some.inj (c1.symm.trans hq)
            subst e3
            have e4 : ww = w := Option.some.inj (c2.symm.trans hw)
            subst e4
            subst c3
            have ht2 : old.1 = 0 ∨ old.1 = 2 := by rw [xeqb l1]; exact htag
            rw [avR_num a4 ht2, eeq_ok hR.1 l2, hz ρ (aag.rf ne ρ)]
          refine ⟨mem, gh, h, ?_, hInv, hwc⟩
          rw [cup_same hsame]
          exact hC
end Stor
