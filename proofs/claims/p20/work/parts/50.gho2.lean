/-! Ghosts: what a store, what a call's writes leave -/
section Gho2
variable {h0 : xheap} {tyt : Lean.RArray (Nat × Nat)} {GS : gho → (Nat → Int) → cg → Prop}
/-- a store at t, c, i (between lo and hi) meets no row of the column that lies below n - d -/
noncomputable def gcf (env : aenv) (fx : List ae) (t : Nat) (c i : ae) (lo hi : Int) (n : Option ae) (d : Nat) (col : afc) : Bool :=
  cond (Nat.beq col.1 t) (cond (ene env c ((col.2.1 : Int), [])) true (cond (zlt hi (col.2.2.1 : Int)) true (cond (zlt ((col.2.2.1 + col.2.2.2 * 59 : Nat) : Int) lo) true
    (cond (!(zeq (Int.emod (Int.add i.1 (Int.neg (col.2.2.1 : Int))) (Nat.gcd col.2.2.2 (zgcd i.2) : Nat)) 0)) true (match n with
      | none => false
      | some n => cond (Nat.blt 0 col.2.2.2) (efrc (eadd (eadc (escl n (col.2.2.2 : Int)) (Int.add (col.2.2.1 : Int) (Int.neg ((col.2.2.2 * d : Nat) : Int)))) i (-1)) (fun x => elef env fx 2 x)) false))))) true
theorem gcf_ok {env : aenv} {fx : List ae} {ρ : Nat → Int} (hE : envR env ρ) (hX : fxR fx ρ) {t : Nat} {c i : ae} {lo hi : Int} {n : Option ae} {d : Nat} {col : afc} {N : Int} {k j : Nat} (hc : ev ρ c = (k : Int)) (hi' : ev ρ i = (j : Int)) (hlo : lo ≤ (j : Int)) (hhi : (j : Int) ≤ hi) (ht : xg tyt k = some t) (htc : xg tyt col.2.1 = some col.1) (hn : ∀ e, n = some e → N = ev ρ e) (hN : N ≤ 60) (h : gcf env fx t c i lo hi n d col = true) : ∀ r : Nat, (r : Int) < N - (d : Int) → ¬ (col.2.1 = k ∧ col.2.2.1 + col.2.2.2 * r = j) := by
  intro r hr ⟨e1, e2⟩
  unfold gcf at h
  have et : col.1 = t := by rw [e1] at htc; exact Option.some.inj (htc.symm.trans ht)
  rw [xnb1 et] at h
  simp only [cond_true] at h
  have hr59 : r ≤ 59 := by omega
  have hmul : col.2.2.2 * r ≤ col.2.2.2 * 59 := Nat.mul_le_mul_left _ hr59
  have ej : (j : Int) = (col.2.2.1 : Int) + ((col.2.2.2 * r : Nat) : Int) := by omega
  rcases xcnt h with h | h
  · have := ene_ok hE h
    rw [hc, evc] at this
    exact this (by omega)
  · rcases xcnt h with h | h
    · have := zlt_iff.mp h; omega
    · rcases xcnt h with h | h
      · have := zlt_iff.mp h; omega
      · rcases xcnt h with h | h
        · have hd2 : ((Nat.gcd col.2.2.2 (zgcd i.2) : Nat) : Int) ∣ evl ρ i.2 := Int.dvd_trans (Int.natCast_dvd_natCast.mpr (Nat.gcd_dvd_right _ _)) (zgcd_ok ρ i.2)
          have hd3 : ((Nat.gcd col.2.2.2 (zgcd i.2) : Nat) : Int) ∣ ((col.2.2.2 * r : Nat) : Int) := Int.natCast_dvd_natCast.mpr (Nat.dvd_trans (Nat.gcd_dvd_left _ _) (Nat.dvd_mul_right _ _))
          have e3 : Int.add i.1 (Int.neg (col.2.2.1 : Int)) = ((col.2.2.2 * r : Nat) : Int) - evl ρ i.2 := by
            show i.1 + -(col.2.2.1 : Int) = _
            have : ev ρ i = i.1 + evl ρ i.2 := rfl
            omega
          have h4 : Int.emod (Int.add i.1 (Int.neg (col.2.2.1 : Int))) ((Nat.gcd col.2.2.2 (zgcd i.2) : Nat) : Int) = 0 := by
            apply Int.emod_eq_zero_of_dvd
            rw [e3]
            exact Int.dvd_sub hd3 hd2
          rw [zeq_iff.mpr h4] at h
          cases h
        · cases n with
          | none => cases h
          | some e =>
            obtain ⟨hs0, h⟩ := xcnb h
            have hs0 := xltb hs0
            rw [efrc_eq] at h
            have h := elef_ok hE hX 2 _ h
            rw [eadd_ev, eadc_ev, escl_ev, hi', ← hn e rfl] at h
            have h : (col.2.2.2 : Int) * N + ((col.2.2.1 : Int) + -((col.2.2.2 * d : Nat) : Int)) + -1 * (j : Int) ≤ 0 := h
            have m1 : ((col.2.2.2 * r : Nat) : Int) = (col.2.2.2 : Int) * (r : Int) := Int.natCast_mul _ _
            have m2 : ((col.2.2.2 * d : Nat) : Int) = (col.2.2.2 : Int) * (d : Int) := Int.natCast_mul _ _
            have m3 : (col.2.2.2 : Int) * (N - (d : Int)) = (col.2.2.2 : Int) * N - (col.2.2.2 : Int) * (d : Int) := Int.mul_sub _ _ _
            have m4 : (col.2.2.2 : Int) * ((r : Int) + 1) ≤ (col.2.2.2 : Int) * (N - (d : Int)) := Int.mul_le_mul_of_nonneg_left (by omega) (by omega)
            rw [Int.mul_add, Int.mul_one] at m4
            omega
/-- what the tables must say of the families -/
def gfT (tyt : Lean.RArray (Nat × Nat)) (fam : Lean.RArray (Nat × afam)) : Prop := ∀ (f : Nat) (F : afam), xg fam f = some F → xg tyt F.1.2.1 = some F.1.1 ∧ xg tyt F.2.1.2.1 = some F.2.1.1 ∧ ∀ col ∈ F.2.2.1, xg tyt col.2.1 = some col.1
/-- rows that nothing touches stay as they are -/
theorem gRI_keep {F : afam} {d : Nat} {g g' : cg} (h : gRI F d g) (hN : g' F.1.2.1 F.1.2.2 = g F.1.2.1 F.1.2.2) (hk : ∀ r : Nat, (r : Int) < g F.1.2.1 F.1.2.2 - (d : Int) → g' F.2.1.2.1 (F.2.1.2.2.1 + F.2.1.2.2.2 * r) = g F.2.1.2.1 (F.2.1.2.2.1 + F.2.1.2.2.2 * r) ∧ ∀ col ∈ F.2.2.1, g' col.2.1 (col.2.2.1 + col.2.2.2 * r) = g col.2.1 (col.2.2.1 + col.2.2.2 * r)) : gRI F d g' := by
  refine ⟨by rw [hN]; exact h.1, fun r hr q hq q1 q2 c hc => ?_⟩
  rw [hN] at hr
  obtain ⟨k1, k2⟩ := hk r hr
  rw [k1] at q1 q2
  rw [k2 c (agt_mem hc)]
  exact h.2 r hr q hq q1 q2 c hc
/-- a store beside the rows and their number -/
noncomputable def gfre (env : aenv) (fx : List ae) (mem : List am) (t : Nat) (c i : ae) (F : afam) (d : Nat) : Bool :=
  cond (cond (Nat.beq F.1.1 t) (cond (ene env c ((F.1.2.1 : Int), [])) true (ene env i ((F.1.2.2 : Int), []))) true)
    (match eu env i with
      | none => false
      | some hi => efrc (escl i (-1)) (fun m => match eu env m with
        | none => false
        | some lo => cond (gcf env fx t c i (Int.neg lo) hi (gnum env mem F.1.1 F.1.2.1 ((F.1.2.2 : Int), [])) d F.2.1) (F.2.2.1.all (fun col => gcf env fx t c i (Int.neg lo) hi (gnum env mem F.1.1 F.1.2.1 ((F.1.2.2 : Int), [])) d col)) false)) false
theorem gfre_ok {fam : Lean.RArray (Nat × afam)} (hT : gfT tyt fam) {env : aenv} {fx : List ae} {mem : List am} {gh : List gho} {g : cg} {ρ : Nat → Int} (hC : coR h0 tyt GS env fx mem gh g ρ) {t : Nat} {c i : ae} {f d : Nat} {F : afam} (hF : xg fam f = some F) {k j : Nat} {z : Int} (hc : ev ρ c = (k : Int)) (hi : ev ρ i = (j : Int)) (ht : xg tyt k = some t) (hR : gRI F d g) (h : gfre env fx mem t c i F d = true) : gRI F d (cup g k j z) := by
  unfold gfre at h
  obtain ⟨h1, h⟩ := xcnb h
  obtain ⟨t1, t2, t3⟩ := hT f F hF
  cases hu : eu env i with
  | none => rw [hu] at h; cases h
  | some hi' =>
    rw [hu] at h
    dsimp only at h
    rw [efrc_eq] at h
    cases hl : eu env (escl i (-1)) with
    | none => rw [hl] at h; cases h
    | some lo =>
      rw [hl] at h
      dsimp only at h
      obtain ⟨h2, h3⟩ := xcnb h
      have b1 := eu_ok hC.1 hu
      have b2 := eu_ok hC.1 hl
      rw [escl_ev] at b2
      have hNn : ∀ e, gnum env mem F.1.1 F.1.2.1 ((F.1.2.2 : Int), []) = some e → g F.1.2.1 F.1.2.2 = ev ρ e := fun e he => by
        obtain ⟨jn, n1, n2, -⟩ := gnum_ok hC he
        rw [evc] at n1
        have : jn = F.1.2.2 := by omega
        rw [this] at n2
        exact n2
      have hNk : ¬ (F.1.2.1 = k ∧ F.1.2.2 = j) := by
        intro ⟨e1, e2⟩
        have et : F.1.1 = t := by rw [e1] at t1; exact Option.some.inj (t1.symm.trans ht)
        rw [xnb1 et] at h1
        simp only [cond_true] at h1
        rcases xcnt h1 with q | q
        · have := ene_ok hC.1 q
          rw [hc, evc] at this
          exact this (by omega)
        · have := ene_ok hC.1 q
          rw [hi, evc] at this
          exact this (by omega)
      have cupn : ∀ k' j' : Nat, ¬ (k' = k ∧ j' = j) → cup g k j z k' j' = g k' j' := fun k' j' hn => by unfold cup; rw [if_neg hn]
      have hb1 : Int.neg lo ≤ (j : Int) := by show -lo ≤ _; omega
      refine gRI_keep hR (cupn _ _ hNk) (fun r hr => ⟨cupn _ _ ?_, fun col hcol => cupn _ _ ?_⟩)
      · exact gcf_ok hC.1 hC.2.1 hc hi hb1 (by omega) ht t2 hNn hR.1 h2 r hr
      · exact gcf_ok hC.1 hC.2.1 hc hi hb1 (by omega) ht (t3 col hcol) hNn hR.1 (List.all_eq_true.mp h3 col hcol) r hr
end Gho2
