section
/-! Ghosts: a call's writes, copies of arrays -/
section Gho4
variable {h0 : xheap} {tyt : Lean.RArray (Nat × Nat)} {fam : Lean.RArray (Nat × afam)} {tAT AT : Nat} {sv : Nat → Int32} {el : Nat → Nat} {π : Int}
/-- the write meets none of the places lo to hi of the cell -/
def gwc (w : awr) (t k : Nat) (lo hi : Int) : Bool := cond (Nat.beq w.1 t) (cond (match w.2.1 with
    | none => false
    | some c => !(Nat.beq c k)) true (cond (zlt hi w.2.2.1) true (cond (zle 2147483648 w.2.2.2) false (zlt w.2.2.2 lo)))) true
theorem gwc_ok {wr : List awr} {t k : Nat} {lo hi : Int} (ht : xg tyt k = some t) (h : wr.all (fun w => gwc w t k lo hi) = true) {j : Nat} (h1 : lo ≤ (j : Int)) (h2 : (j : Int) ≤ hi) : ¬ awc tyt wr k j := by
  intro ⟨w, hw, c1, c2, c3, c4⟩
  have h := List.all_eq_true.mp h w hw
  unfold gwc at h
  have e : w.1 = t := Option.some.inj (c1.symm.trans ht)
  rw [xnb1 e] at h
  simp only [cond_true] at h
  rcases xcnt h with h | h
  · split at h
    · cases h
    · rename_i c hc
      rw [xnb1 (c2 c hc).symm] at h
      cases h
  · rcases xcnt h with h | h
    · have := zlt_iff.mp h; omega
    · cases hb : zle 2147483648 w.2.2.2 with
      | true => rw [hb] at h; cases h
      | false =>
        rw [hb] at h
        have h := zlt_iff.mp (show zlt w.2.2.2 lo = true from h)
        have := zle_f hb
        rcases c4 with c4 | c4 <;> omega
noncomputable def ghw1 (fam : Lean.RArray (Nat × afam)) (tyt : Lean.RArray (Nat × Nat)) (tAT AT : Nat) (env : aenv) (wr : List awr) (x : gho) : Bool :=
  match x.1 with
  | 1 => (match xg fam x.2.1 with
    | none => false
    | some F => cond (wr.all (fun w => gwc w F.1.1 F.1.2.1 (F.1.2.2 : Int) (F.1.2.2 : Int))) (cond (wr.all (fun w => gwc w F.2.1.1 F.2.1.2.1 (F.2.1.2.2.1 : Int) ((F.2.1.2.2.1 + F.2.1.2.2.2 * 59 : Nat) : Int))) (F.2.2.1.all (fun col => wr.all (fun w => gwc w col.1 col.2.1 (col.2.2.1 : Int) ((col.2.2.1 + col.2.2.2 * 59 : Nat) : Int)))) false) false)
  | 2 => (match eu env x.2.2.2 with
    | none => false
    | some u => cond (wr.all (fun w => gwc w tAT AT (x.2.1 : Int) (Int.add (x.2.1 : Int) u))) (wr.all (fun w => gwc w tAT AT (x.2.2.1 : Int) (Int.add (x.2.2.1 : Int) u))) false)
  | 3 => (match xg tyt x.2.1 with
    | none => false
    | some ta => match xg tyt x.2.2.1 with
      | none => false
      | some tb => match eu env x.2.2.2 with
        | none => false
        | some u => cond (wr.all (fun w => gwc w ta x.2.1 0 u)) (wr.all (fun w => gwc w tb x.2.2.1 0 u)) false)
  | 4 => (match xg tyt x.2.1 with
    | none => false
    | some ta => wr.all (fun w => gwc w ta x.2.1 0 (x.2.2.1 : Int)))
  | 50 => true
  | 51 => true
  | _ => false
noncomputable def gHW (fam : Lean.RArray (Nat × afam)) (tyt : Lean.RArray (Nat × Nat)) (tAT AT : Nat) (env : aenv) (_fx : List ae) (_mem : List am) (gh : List gho) (wr : List awr) : List gho := gh.filter (ghw1 fam tyt tAT AT env wr)
theorem gHW_ok (hT : gfT tyt fam) (hAT2 : xg tyt AT = some tAT) : aHW h0 tyt (aGSd sv el (gGH fam AT π)) (gHW fam tyt tAT AT) := by
  intro env fx mem gh wr g g' ρ hC hg x hx
  obtain ⟨hx0, h⟩ := List.mem_filter.mp hx
  have hG := hC.2.2.2 x hx0
  obtain ⟨xk, xa, xb, xe⟩ := x
  unfold ghw1 at h
  dsimp only at h
  split at h
  · have hG : ∀ F, xg fam xa = some F → gRI F xb g := hG
    cases hF : xg fam xa with
    | none => rw [hF] at h; cases h
    | some F =>
      rw [hF] at h
      obtain ⟨h1, h⟩ := xcnb h
      obtain ⟨h2, h3⟩ := xcnb h
      obtain ⟨t1, t2, t3⟩ := hT xa F hF
      have hR := hG F hF
      intro F' hF'
      have e2 : F' = F := Option.some.inj (hF'.symm.trans hF)
      subst e2
      refine gRI_keep hR (hg _ _ (gwc_ok t1 h1 (Int.le_refl _) (Int.le_refl _))) (fun r hr => ?_)
      have hN := hR.1
      have hr59 : r ≤ 59 := by omega
      refine ⟨hg _ _ (gwc_ok t2 h2 ?_ ?_), fun col hcol => hg _ _ (gwc_ok (t3 col hcol) (List.all_eq_true.mp h3 col hcol) ?_ ?_)⟩
      · omega
      · have := Nat.mul_le_mul_left F'.2.1.2.2.2 hr59; omega
      · omega
      · have := Nat.mul_le_mul_left col.2.2.2 hr59; omega
  · have hG : ∀ j : Nat, (j : Int) < ev ρ xe → g AT (xa + j) = g AT (xb + j) := hG
    cases hE : eu env xe with
    | none => rw [hE] at h; cases h
    | some u =>
      rw [hE] at h
      obtain ⟨h1, h2⟩ := xcnb h
      have b3 := eu_ok hC.1 hE
      show ∀ j : Nat, (j : Int) < ev ρ xe → g' AT (xa + j) = g' AT (xb + j)
      intro j hj
      rw [hg _ _ (gwc_ok hAT2 h1 (by omega) (by show _ ≤ (xa : Int) + u; omega)), hg _ _ (gwc_ok hAT2 h2 (by omega) (by show _ ≤ (xb : Int) + u; omega))]
      exact hG j hj
  · have hG : ∀ j : Nat, (j : Int) < ev ρ xe → g xa j = g xb j := hG
    cases ha : xg tyt xa with
    | none => rw [ha] at h; cases h
    | some ta =>
      rw [ha] at h
      dsimp only at h
      cases hb : xg tyt xb with
      | none => rw [hb] at h; cases h
      | some tb =>
        rw [hb] at h
        dsimp only at h
        cases hE : eu env xe with
        | none => rw [hE] at h; cases h
        | some u =>
          rw [hE] at h
          obtain ⟨h1, h2⟩ := xcnb h
          have b3 := eu_ok hC.1 hE
          show ∀ j : Nat, (j : Int) < ev ρ xe → g' xa j = g' xb j
          intro j hj
          rw [hg _ _ (gwc_ok ha h1 (by omega) (by omega)), hg _ _ (gwc_ok hb h2 (by omega) (by omega))]
          exact hG j hj
  · have hG : psum g xa xb = π + ev ρ xe := hG
    cases ha : xg tyt xa with
    | none => rw [ha] at h; cases h
    | some ta =>
      rw [ha] at h
      show psum g' xa xb = π + ev ρ xe
      rw [← hG]
      exact psum_cg (fun j hj => hg _ _ (gwc_ok ha h (by omega) (by omega)))
  · exact hG
  · exact hG
  · cases h
/-- a copy into another cell -/
noncomputable def gha1 (fam : Lean.RArray (Nat × afam)) (AT : Nat) (env : aenv) (cb : ae) (x : gho) : Bool :=
  match x.1 with
  | 1 => (match xg fam x.2.1 with
    | none => false
    | some F => cond (ene env cb ((F.1.2.1 : Int), [])) (cond (ene env cb ((F.2.1.2.1 : Int), [])) (F.2.2.1.all (fun col => ene env cb ((col.2.1 : Int), []))) false) false)
  | 2 => ene env cb ((AT : Int), [])
  | 3 => cond (ene env cb ((x.2.1 : Int), [])) (ene env cb ((x.2.2.1 : Int), [])) false
  | 4 => ene env cb ((x.2.1 : Int), [])
  | 50 => true
  | 51 => true
  | _ => false
noncomputable def gHA (fam : Lean.RArray (Nat × afam)) (AT : Nat) (env : aenv) (_fx : List ae) (_mem : List am) (gh : List gho) (_ta : Nat) (ca : ae) (_tb : Nat) (cb sp dp m : ae) : List gho :=
  gh.filter (gha1 fam AT env cb) ++ (match (enor env ca).2, (enor env cb).2, (enor env sp).2, (enor env dp).2 with
    | [], [], [], [] => cond (cond (zeq (enor env sp).1 0) (zeq (enor env dp).1 0) false) [(3, (enor env cb).1.toNat, (enor env ca).1.toNat, m)] []
    | _, _, _, _ => [])
theorem enor_c {env : aenv} {ρ : Nat → Int} (hE : envR env ρ) {e : ae} (h : (enor env e).2 = []) : ev ρ e = (enor env e).1 := by
  rw [← enor_ok hE e]
  unfold ev
  rw [h]
  show _ + 0 = _
  omega
theorem gHA_ok : aHA h0 tyt (aGSd sv el (gGH fam AT π)) (gHA fam AT) := by
  intro env fx mem gh g ρ ta ca tb cb sp dp m ka kb s d n hC hca hcb hta htb hsp hdp hm x hx
  have ne : ∀ (k' j' : Nat), k' ≠ kb → ccp g ka kb s d n k' j' = g k' j' := fun k' j' hk => by unfold ccp; rw [if_neg (fun z => hk z.1)]
  have nk : ∀ q : Nat, ene env cb ((q : Int), []) = true → q ≠ kb := fun q hq => by
    have := ene_ok hC.1 hq
    rw [hcb, evc] at this
    intro e
    exact this (by omega)
  rcases List.mem_append.mp hx with hx | hx
  · obtain ⟨hx0, h⟩ := List.mem_filter.mp hx
    have hG := hC.2.2.2 x hx0
    obtain ⟨xk, xa, xb, xe⟩ := x
    unfold gha1 at h
    dsimp only at h
    split at h
    · have hG : ∀ F, xg fam xa = some F → gRI F xb g := hG
      cases hF : xg fam xa with
      | none => rw [hF] at h; cases h
      | some F =>
        rw [hF] at h
        obtain ⟨h1, h⟩ := xcnb h
        obtain ⟨h2, h3⟩ := xcnb h
        intro F' hF'
        have e2 : F' = F := Option.some.inj (hF'.symm.trans hF)
        subst e2
        exact gRI_keep (hG F' hF) (ne _ _ (nk _ h1)) (fun r hr => ⟨ne _ _ (nk _ h2), fun col hcol => ne _ _ (nk _ (List.all_eq_true.mp h3 col hcol))⟩)
    · have hG : ∀ j : Nat, (j : Int) < ev ρ xe → g AT (xa + j) = g AT (xb + j) := hG
      show ∀ j : Nat, (j : Int) < ev ρ xe → ccp g ka kb s d n AT (xa + j) = ccp g ka kb s d n AT (xb + j)
      intro j hj
      rw [ne _ _ (nk _ h), ne _ _ (nk _ h)]
      exact hG j hj
    · have hG : ∀ j : Nat, (j : Int) < ev ρ xe → g xa j = g xb j := hG
      obtain ⟨h1, h2⟩ := xcnb h
      show ∀ j : Nat, (j : Int) < ev ρ xe → ccp g ka kb s d n xa j = ccp g ka kb s d n xb j
      intro j hj
      rw [ne _ _ (nk _ h1), ne _ _ (nk _ h2)]
      exact hG j hj
    · have hG : psum g xa xb = π + ev ρ xe := hG
      show psum (ccp g ka kb s d n) xa xb = π + ev ρ xe
      rw [← hG]
      exact psum_cg (fun j hj => ne _ _ (nk _ h))
    · exact hG
    · exact hG
    · cases h
  · split at hx
    · rename_i c1 c2 c3 c4
      cases hb : cond (zeq (enor env sp).1 0) (zeq (enor env dp).1 0) false with
      | false => rw [hb] at hx; exact absurd hx List.not_mem_nil
      | true =>
        rw [hb] at hx
        obtain ⟨z1, z2⟩ := xcnb hb
        have z1 := zeq_iff.mp z1
        have z2 := zeq_iff.mp z2
        have e := List.mem_singleton.mp hx
        subst e
        have f1 := enor_c hC.1 c1
        have f2 := enor_c hC.1 c2
        have f3 := enor_c hC.1 c3
        have f4 := enor_c hC.1 c4
        have es : s = 0 := by omega
        have ed : d = 0 := by omega
        subst es; subst ed
        have ea : (enor env ca).1.toNat = ka := by omega
        have eb' : (enor env cb).1.toNat = kb := by omega
        show ∀ j : Nat, (j : Int) < ev ρ m → ccp g ka kb 0 0 n (enor env cb).1.toNat j = ccp g ka kb 0 0 n (enor env ca).1.toNat j
        intro j hj
        rw [ea, eb']
        have hj2 : j < n := by omega
        by_cases hk : ka = kb
        · rw [hk]
        · rw [ne _ _ hk]
          unfold ccp
          rw [if_pos ⟨rfl, Nat.zero_le _, by omega⟩]
          congr 1
          omega
    · exact absurd hx List.not_mem_nil
end Gho4
end
section
/-! Ghosts: what is there, or follows -/
section Gho5
variable {h0 : xheap} {tyt : Lean.RArray (Nat × Nat)} {fam : Lean.RArray (Nat × afam)} {AT : Nat} {sv : Nat → Int32} {el : Nat → Nat} {π : Int}
/-- the last row is as its kind says -/
noncomputable def glast (env : aenv) (fx : List ae) (mem : List am) (F : afam) (n : ae) : Bool :=
  efrc (eadc n (-1)) (fun r => match gnum env mem F.2.1.1 F.2.1.2.1 (eadc (escl r (F.2.1.2.2.2 : Int)) (F.2.1.2.2.1 : Int)) with
    | none => false
    | some K => match ebd env fx K with
      | none => false
      | some ik => F.2.2.2.all (fun q => cond (zlt ik.2 q.1) true (cond (zlt q.2.1 ik.1) true (match agt F.2.2.1 q.2.2.1 with
        | none => true
        | some col => match gnum env mem col.1 col.2.1 (eadc (escl r (col.2.2.2 : Int)) (col.2.2.1 : Int)) with
          | none => false
          | some w => efit env fx w q.2.2.2.1 q.2.2.2.2))))
theorem glast_ok {GS : gho → (Nat → Int) → cg → Prop} {env : aenv} {fx : List ae} {mem : List am} {gh : List gho} {g : cg} {ρ : Nat → Int} (hC : coR h0 tyt GS env fx mem gh g ρ) {F : afam} {n : ae} (hn : g F.1.2.1 F.1.2.2 = ev ρ n) (hR : gRI F 1 g) (h : glast env fx mem F n = true) : gRI F 0 g := by
  unfold glast at h
  rw [efrc_eq] at h
  cases hK : gnum env mem F.2.1.1 F.2.1.2.1 (eadc (escl (eadc n (-1)) (F.2.1.2.2.2 : Int)) (F.2.1.2.2.1 : Int)) with
  | none => rw [hK] at h; cases h
  | some K =>
    rw [hK] at h
    dsimp only at h
    cases hik : ebd env fx K with
    | none => rw [hik] at h; cases h
    | some ik =>
      rw [hik] at h
      dsimp only at h
      obtain ⟨jk, k1, k2, -⟩ := gnum_ok hC hK
      rw [eadc_ev, escl_ev, eadc_ev] at k1
      have hkv := ebd_ok hC.1 hC.2.1 hik
      refine ⟨hR.1, fun r hr q hq q1 q2 c hc => ?_⟩
      by_cases hlt : (r : Int) < g F.1.2.1 F.1.2.2 - ((1 : Nat) : Int)
      · exact hR.2 r hlt q hq q1 q2 c hc
      · have er : ev ρ n + -1 = (r : Int) := by omega
        rw [er] at k1
        have ejk : jk = F.2.1.2.2.1 + F.2.1.2.2.2 * r := by
          have e2 : ((F.2.1.2.2.2 * r : Nat) : Int) = (F.2.1.2.2.2 : Int) * (r : Int) := Int.natCast_mul _ _
          omega
        rw [← ejk, k2] at q1 q2
        have h := List.all_eq_true.mp h q hq
        rcases xcnt h with h | h
        · have := zlt_iff.mp h; omega
        · rcases xcnt h with h | h
          · have := zlt_iff.mp h; omega
          · rw [hc] at h
            dsimp only at h
            cases hw : gnum env mem c.1 c.2.1 (eadc (escl (eadc n (-1)) (c.2.2.2 : Int)) (c.2.2.1 : Int)) with
            | none => rw [hw] at h; cases h
            | some w =>
              rw [hw] at h
              obtain ⟨jw, w1, w2, -⟩ := gnum_ok hC hw
              rw [eadc_ev, escl_ev, eadc_ev, er] at w1
              have ejw : jw = c.2.2.1 + c.2.2.2 * r := by
                have e2 : ((c.2.2.2 * r : Nat) : Int) = (c.2.2.2 : Int) * (r : Int) := Int.natCast_mul _ _
                omega
              rw [← ejw, w2]
              exact efit_ok hC.1 hC.2.1 h
/-- two families, column by column -/
def gpr (P : afc → afc → Bool) : List afc → List afc → Bool
  | [], [] => true
  | a :: l, b :: m => cond (P a b) (gpr P l m) false
  | _, _ => false
theorem gpr_ok {P : afc → afc → Bool} : ∀ {l m : List afc}, gpr P l m = true → ∀ i a, agt l i = some a → ∃ b, agt m i = some b ∧ P a b = true
  | [], [], _, _, _, h => by cases h
  | [], _ :: _, h, _, _, _ => by cases h
  | _ :: _, [], h, _, _, _ => by cases h
  | a :: l, b :: m, h, 0, x, hx => by
    obtain ⟨h1, h2⟩ := xcnb (show cond (P a b) (gpr P l m) false = true from h)
    have e : a = x := Option.some.inj hx
    exact ⟨b, rfl, by rw [← e]; exact h1⟩
  | a :: l, b :: m, h, i + 1, x, hx => by
    obtain ⟨h1, h2⟩ := xcnb (show cond (P a b) (gpr P l m) false = true from h)
    exact gpr_ok h2 i x hx
def grl (a b : Int × Int × Nat × Int × Int) : Bool := cond (zeq a.1 b.1) (cond (zeq a.2.1 b.2.1) (cond (Nat.beq a.2.2.1 b.2.2.1) (cond (zeq a.2.2.2.1 b.2.2.2.1) (zeq a.2.2.2.2 b.2.2.2.2) false) false) false) false
def grq : List (Int × Int × Nat × Int × Int) → List (Int × Int × Nat × Int × Int) → Bool
  | [], [] => true
  | a :: l, b :: m => cond (grl a b) (grq l m) false
  | _, _ => false
theorem grq_ok : ∀ {l m : List (Int × Int × Nat × Int × Int)}, grq l m = true → l = m
  | [], [], _ => rfl
  | [], _ :: _, h => by cases h
  | _ :: _, [], h => by cases h
  | (a1, a2, a3, a4, a5) :: l, (b1, b2, b3, b4, b5) :: m, h => by
    obtain ⟨h1, h2⟩ := xcnb (show cond (grl (a1, a2, a3, a4, a5) (b1, b2, b3, b4, b5)) (grq l m) false = true from h)
    obtain ⟨c1, h1⟩ := xcnb h1
    obtain ⟨c2, h1⟩ := xcnb h1
    obtain ⟨c3, h1⟩ := xcnb h1
    obtain ⟨c4, c5⟩ := xcnb h1
    have c1 : a1 = b1 := zeq_iff.mp c1
    have c2 : a2 = b2 := zeq_iff.mp c2
    have c3 : a3 = b3 := xeqb c3
    have c4 : a4 = b4 := zeq_iff.mp c4
    have c5 : a5 = b5 := zeq_iff.mp c5
    rw [c1, c2, c3, c4, c5, grq_ok h2]
/-- rows copied, all of them -/
theorem gRI_copy {F F2 : afam} {g : cg} (hR : gRI F2 0 g) (hN : g F.1.2.1 F.1.2.2 = g F2.1.2.1 F2.1.2.2) (hq : F.2.2.2 = F2.2.2.2) (hk : ∀ r : Nat, r ≤ 59 → (r : Int) < g F.1.2.1 F.1.2.2 → g F.2.1.2.1 (F.2.1.2.2.1 + F.2.1.2.2.2 * r) = g F2.2.1.2.1 (F2.2.1.2.2.1 + F2.2.1.2.2.2 * r) ∧ ∀ i c, agt F.2.2.1 i = some c → ∃ c2, agt F2.2.2.1 i = some c2 ∧ g c.2.1 (c.2.2.1 + c.2.2.2 * r) = g c2.2.1 (c2.2.2.1 + c2.2.2.2 * r)) : gRI F 0 g := by
  refine ⟨by rw [hN]; exact hR.1, fun r hr q hq' q1 q2 c hc => ?_⟩
  have h60 := hR.1
  obtain ⟨k1, k2⟩ := hk r (by omega) (by omega)
  rw [k1] at q1 q2
  obtain ⟨c2, c3, c4⟩ := k2 _ c hc
  rw [c4]
  exact hR.2 r (by omega) q (by rw [← hq]; exact hq') q1 q2 c2 c3
noncomputable def gcpa (env : aenv) (gh : List gho) (n : ae) (a b : afc) : Bool :=
  cond (Nat.beq a.2.2.1 0) (cond (Nat.beq b.2.2.1 0) (cond (Nat.beq a.2.2.2 1) (cond (Nat.beq b.2.2.2 1) (gh.any (fun y => cond (Nat.beq y.1 3) (cond (Nat.beq y.2.1 a.2.1) (cond (Nat.beq y.2.2.1 b.2.1) (eeq env y.2.2.2 n) false) false) false)) false) false) false) false
noncomputable def gcp1 (env : aenv) (fx : List ae) (AT : Nat) (y : gho) (a b : afc) : Bool :=
  cond (Nat.beq a.2.1 AT) (cond (Nat.beq b.2.1 AT) (cond (Nat.beq a.2.2.2 b.2.2.2) (cond (Nat.beq (a.2.2.1 + y.2.2.1) (b.2.2.1 + y.2.1)) (cond (Nat.ble y.2.1 a.2.2.1) (elef env fx 2 (eadd (((a.2.2.1 + a.2.2.2 * 59 + 1 : Nat) : Int) + -(y.2.1 : Int), []) y.2.2.2 (-1))) false) false) false) false) false
section CopyS
variable {env : aenv} {fx : List ae} {mem : List am} {gh : List gho} {g : cg} {ρ : Nat → Int}
theorem gcpa_ok (hC : coR h0 tyt (aGSd sv el (gGH fam AT π)) env fx mem gh g ρ) {n : ae} {a b : afc} (h : gcpa env gh n a b = true) {r : Nat} (hr : (r : Int) < ev ρ n) : g a.2.1 (a.2.2.1 + a.2.2.2 * r) = g b.2.1 (b.2.2.1 + b.2.2.2 * r) := by
  obtain ⟨h1, h⟩ := xcnb h
  obtain ⟨h2, h⟩ := xcnb h
  obtain ⟨h3, h⟩ := xcnb h
  obtain ⟨h4, h⟩ := xcnb h
  obtain ⟨y, hy, h⟩ := List.any_eq_true.mp h
  obtain ⟨y1, h⟩ := xcnb h
  obtain ⟨y2, h⟩ := xcnb h
  obtain ⟨y3, h⟩ := xcnb h
  have hG := hC.2.2.2 y hy
  obtain ⟨yk, ya, yb, ye⟩ := y
  have y1 : yk = 3 := xeqb y1
  subst y1
  have hG : ∀ j : Nat, (j : Int) < ev ρ ye → g ya j = g yb j := hG
  have y2 : ya = a.2.1 := xeqb y2
  have y3 : yb = b.2.1 := xeqb y3
  have e := eeq_ok hC.1 h
  rw [xeqb h1, xeqb h2, xeqb h3, xeqb h4, ← y2, ← y3, Nat.zero_add, Nat.one_mul]
  exact hG r (by have e : ev ρ ye = ev ρ n := e; omega)
theorem gcp1_ok (hC : coR h0 tyt (aGSd sv el (gGH fam AT π)) env fx mem gh g ρ) {y : gho} (hy : y ∈ gh) (hy1 : y.1 = 2) {a b : afc} (h : gcp1 env fx AT y a b = true) {r : Nat} (hr : r ≤ 59) : g a.2.1 (a.2.2.1 + a.2.2.2 * r) = g b.2.1 (b.2.2.1 + b.2.2.2 * r) := by
  obtain ⟨h1, h⟩ := xcnb h
  obtain ⟨h2, h⟩ := xcnb h
  obtain ⟨h3, h⟩ := xcnb h
  obtain ⟨h4, h⟩ := xcnb h
  obtain ⟨h5, h6⟩ := xcnb h
  have hG := hC.2.2.2 y hy
  obtain ⟨yk, ya, yb, ye⟩ := y
  have hy1 : yk = 2 := hy1
  subst hy1
  have hG : ∀ j : Nat, (j : Int) < ev ρ ye → g AT (ya + j) = g AT (yb + j) := hG
  have h4 : a.2.2.1 + yb = b.2.2.1 + ya := xeqb h4
  have h5 : ya ≤ a.2.2.1 := xleb h5
  have h6 := elef_ok hC.1 hC.2.1 2 _ h6
  rw [eadd_ev] at h6
  have e0 : ev ρ ((((a.2.2.1 + a.2.2.2 * 59 + 1 : Nat) : Int) + -(ya : Int), []) : ae) = ((a.2.2.1 + a.2.2.2 * 59 + 1 : Nat) : Int) + -(ya : Int) := ecst_ev ρ _
  have h6 : ev ρ ((((a.2.2.1 + a.2.2.2 * 59 + 1 : Nat) : Int) + -(ya : Int), []) : ae) + -1 * ev ρ ye ≤ 0 := h6
  rw [e0] at h6
  have hm := Nat.mul_le_mul_left a.2.2.2 hr
  rw [xeqb h1, xeqb h2, ← xeqb h3]
  have := hG (a.2.2.1 + a.2.2.2 * r - ya) (by omega)
  rw [show ya + (a.2.2.1 + a.2.2.2 * r - ya) = a.2.2.1 + a.2.2.2 * r by omega, show yb + (a.2.2.1 + a.2.2.2 * r - ya) = b.2.2.1 + a.2.2.2 * r by omega] at this
  exact this
end CopyS
end Gho5
end
section
/-! Ghosts: rows that are copies; what is there -/
section Gho6
variable {h0 : xheap} {tyt : Lean.RArray (Nat × Nat)} {fam : Lean.RArray (Nat × afam)} {AT : Nat} {sv : Nat → Int32} {el : Nat → Nat} {π : Int}
/-- the number is copied too -/
noncomputable def gcpn (env : aenv) (fx : List ae) (AT : Nat) (y : gho) (F F2 : afam) : Bool :=
  cond (Nat.beq F.1.2.1 AT) (cond (Nat.beq F2.1.2.1 AT) (cond (Nat.beq (F.1.2.2 + y.2.2.1) (F2.1.2.2 + y.2.1)) (cond (Nat.ble y.2.1 F.1.2.2) (elef env fx 2 (eadd (((F.1.2.2 + 1 : Nat) : Int) + -(y.2.1 : Int), []) y.2.2.2 (-1))) false) false) false) false
noncomputable def gceq (env : aenv) (mem : List am) (F F2 : afam) : Bool := match gnum env mem F.1.1 F.1.2.1 ((F.1.2.2 : Int), []) with
  | none => false
  | some n => match gnum env mem F2.1.1 F2.1.2.1 ((F2.1.2.2 : Int), []) with
    | none => false
    | some n2 => eeq env n n2
noncomputable def gcpA (env : aenv) (mem : List am) (gh : List gho) (F F2 : afam) : Bool := match gnum env mem F.1.1 F.1.2.1 ((F.1.2.2 : Int), []) with
  | none => false
  | some n => cond (gcpa env gh n F.2.1 F2.2.1) (gpr (gcpa env gh n) F.2.2.1 F2.2.2.1) false
noncomputable def gcpB (env : aenv) (fx : List ae) (mem : List am) (AT : Nat) (gh : List gho) (F F2 : afam) : Bool :=
  gh.any (fun y => cond (Nat.beq y.1 2) (cond (gcp1 env fx AT y F.2.1 F2.2.1) (cond (gpr (gcp1 env fx AT y) F.2.2.1 F2.2.2.1) (cond (gcpn env fx AT y F F2) true (gceq env mem F F2)) false) false) false)
noncomputable def gcpy (fam : Lean.RArray (Nat × afam)) (AT : Nat) (env : aenv) (fx : List ae) (mem : List am) (gh : List gho) (F : afam) (f2 : Nat) : Bool :=
  cond (gh.any (fun y => cond (Nat.beq y.1 1) (cond (Nat.beq y.2.1 f2) (Nat.beq y.2.2.1 0) false) false)) (match xg fam f2 with
    | none => false
    | some F2 => cond (grq F.2.2.2 F2.2.2.2) (cond (gcpB env fx mem AT gh F F2) true (cond (gceq env mem F F2) (gcpA env mem gh F F2) false)) false) false
section CopyT
variable {env : aenv} {fx : List ae} {mem : List am} {gh : List gho} {g : cg} {ρ : Nat → Int}
theorem gnumN {GS : gho → (Nat → Int) → cg → Prop} (hC : coR h0 tyt GS env fx mem gh g ρ) {F : afam} {n : ae} (h : gnum env mem F.1.1 F.1.2.1 ((F.1.2.2 : Int), []) = some n) : g F.1.2.1 F.1.2.2 = ev ρ n := by
  obtain ⟨jn, n1, n2, -⟩ := gnum_ok hC h
  rw [evc] at n1
  have : jn = F.1.2.2 := by omega
  rw [this] at n2
  exact n2
theorem gcpn_ok (hC : coR h0 tyt (aGSd sv el (gGH fam AT π)) env fx mem gh g ρ) {y : gho} (hy : y ∈ gh) (hy1 : y.1 = 2) {F F2 : afam} (h : gcpn env fx AT y F F2 = true) : g F.1.2.1 F.1.2.2 = g F2.1.2.1 F2.1.2.2 := by
  obtain ⟨h1, h⟩ := xcnb h
  obtain ⟨h2, h⟩ := xcnb h
  obtain ⟨h4, h⟩ := xcnb h
  obtain ⟨h5, h6⟩ := xcnb h
  have hG := hC.2.2.2 y hy
  obtain ⟨yk, ya, yb, ye⟩ := y
  have hy1 : yk = 2 := hy1
  subst hy1
  have hG : ∀ j : Nat, (j : Int) < ev ρ ye → g AT (ya + j) = g AT (yb + j) := hG
  have h4 : F.1.2.2 + yb = F2.1.2.2 + ya := xeqb h4
  have h5 : ya ≤ F.1.2.2 := xleb h5
  have h6 := elef_ok hC.1 hC.2.1 2 _ h6
  rw [eadd_ev] at h6
  have e0 : ev ρ ((((F.1.2.2 + 1 : Nat) : Int) + -(ya : Int), []) : ae) = ((F.1.2.2 + 1 : Nat) : Int) + -(ya : Int) := ecst_ev ρ _
  have h6 : ev ρ ((((F.1.2.2 + 1 : Nat) : Int) + -(ya : Int), []) : ae) + -1 * ev ρ ye ≤ 0 := h6
  rw [e0] at h6
  rw [xeqb h1, xeqb h2]
  have := hG (F.1.2.2 - ya) (by omega)
  rw [show ya + (F.1.2.2 - ya) = F.1.2.2 by omega, show yb + (F.1.2.2 - ya) = F2.1.2.2 by omega] at this
  exact this
theorem gceq_ok {GS : gho → (Nat → Int) → cg → Prop} (hC : coR h0 tyt GS env fx mem gh g ρ) {F F2 : afam} (h : gceq env mem F F2 = true) : g F.1.2.1 F.1.2.2 = g F2.1.2.1 F2.1.2.2 := by
  unfold gceq at h
  cases hn : gnum env mem F.1.1 F.1.2.1 ((F.1.2.2 : Int), []) with
  | none => rw [hn] at h; cases h
  | some n =>
    rw [hn] at h
    dsimp only at h
    cases hn2 : gnum env mem F2.1.1 F2.1.2.1 ((F2.1.2.2 : Int), []) with
    | none => rw [hn2] at h; cases h
    | some n2 =>
      rw [hn2] at h
      rw [gnumN hC hn, gnumN hC hn2]
      exact eeq_ok hC.1 h
theorem gcpy_ok (hC : coR h0 tyt (aGSd sv el (gGH fam AT π)) env fx mem gh g ρ) {F : afam} {f2 : Nat} (h : gcpy fam AT env fx mem gh F f2 = true) : gRI F 0 g := by
  unfold gcpy at h
  obtain ⟨h1, h⟩ := xcnb h
  obtain ⟨z, hz, h1⟩ := List.any_eq_true.mp h1
  obtain ⟨z1, h1⟩ := xcnb h1
  obtain ⟨z2, z3⟩ := xcnb h1
  have hG := hC.2.2.2 z hz
  obtain ⟨zk, za, zb, ze⟩ := z
  have e1 : zk = 1 := xeqb z1
  have e2 : za = f2 := xeqb z2
  have e3 : zb = 0 := xeqb z3
  subst e1; subst e2; subst e3
  have hG : ∀ F, xg fam za = some F → gRI F 0 g := hG
  cases hF : xg fam za with
  | none => rw [hF] at h; cases h
  | some F2 =>
    rw [hF] at h
    obtain ⟨hq, h⟩ := xcnb h
    have hq := grq_ok hq
    have hR := hG F2 hF
    rcases xcnt h with h | h
    · obtain ⟨y, hy, h⟩ := List.any_eq_true.mp h
      obtain ⟨y1, h⟩ := xcnb h
      obtain ⟨y2, h⟩ := xcnb h
      obtain ⟨y3, h⟩ := xcnb h
      have y1 := xeqb y1
      have hN : g F.1.2.1 F.1.2.2 = g F2.1.2.1 F2.1.2.2 := by
        rcases xcnt h with h | h
        · exact gcpn_ok hC hy y1 h
        · exact gceq_ok hC h
      refine gRI_copy hR hN hq (fun r hr59 hr => ⟨gcp1_ok hC hy y1 y2 hr59, fun i c hc => ?_⟩)
      obtain ⟨c2, p1, p2⟩ := gpr_ok y3 i c hc
      exact ⟨c2, p1, gcp1_ok hC hy y1 p2 hr59⟩
    · obtain ⟨h1, h⟩ := xcnb h
      have hN := gceq_ok hC h1
      unfold gcpA at h
      cases hn : gnum env mem F.1.1 F.1.2.1 ((F.1.2.2 : Int), []) with
      | none => rw [hn] at h; cases h
      | some n =>
        rw [hn] at h
        obtain ⟨y2, y3⟩ := xcnb h
        have en := gnumN hC hn
        refine gRI_copy hR hN hq (fun r hr59 hr => ⟨gcpa_ok hC y2 (by omega), fun i c hc => ?_⟩)
        obtain ⟨c2, p1, p2⟩ := gpr_ok y3 i c hc
        exact ⟨c2, p1, gcpa_ok hC p2 (by omega)⟩
end CopyT
/-- is the ghost there, or does it follow -/
noncomputable def gHH (fam : Lean.RArray (Nat × afam)) (AT : Nat) (srcs : List Nat) (env : aenv) (fx : List ae) (mem : List am) (gh : List gho) (x : gho) : Bool :=
  match x.1 with
  | 1 => cond (gh.any (fun y => cond (Nat.beq y.1 1) (cond (Nat.beq y.2.1 x.2.1) (Nat.beq y.2.2.1 x.2.2.1) false) false)) true
      (cond (Nat.beq x.2.2.1 0) (match xg fam x.2.1 with
        | none => true
        | some F => cond (match gnum env mem F.1.1 F.1.2.1 ((F.1.2.2 : Int), []) with
            | none => false
            | some n => cond (elef env fx 2 n) true (cond (gh.any (fun y => cond (Nat.beq y.1 1) (cond (Nat.beq y.2.1 x.2.1) (Nat.beq y.2.2.1 1) false) false)) (glast env fx mem F n) false)) true (srcs.any (fun f2 => gcpy fam AT env fx mem gh F f2))) false)
  | 2 => cond (elef env fx 2 x.2.2.2) true (gh.any (fun y => cond (Nat.beq y.1 2) (cond (Nat.beq y.2.1 x.2.1) (cond (Nat.beq y.2.2.1 x.2.2.1) (eeq env y.2.2.2 x.2.2.2) false) false) false))
  | 3 => cond (elef env fx 2 x.2.2.2) true (gh.any (fun y => cond (Nat.beq y.1 3) (cond (Nat.beq y.2.1 x.2.1) (cond (Nat.beq y.2.2.1 x.2.2.1) (eeq env y.2.2.2 x.2.2.2) false) false) false))
  | 4 => gh.any (fun y => cond (Nat.beq y.1 4) (cond (Nat.beq y.2.1 x.2.1) (cond (Nat.beq y.2.2.1 x.2.2.1) (eeq env y.2.2.2 x.2.2.2) false) false) false)
  | 50 => gh.any (fun y => cond (Nat.beq y.1 50) (cond (Nat.beq y.2.1 x.2.1) (eeq env y.2.2.2 x.2.2.2) false) false)
  | 51 => gh.any (fun y => cond (Nat.beq y.1 51) (Nat.beq y.2.1 x.2.1) false)
  | _ => false
theorem gHH_ok {srcs : List Nat} : aHH h0 tyt (aGSd sv el (gGH fam AT π)) (gHH fam AT srcs) := by
  intro env fx mem gh x g ρ h hC
  obtain ⟨xk, xa, xb, xe⟩ := x
  unfold gHH at h
  dsimp only at h
  have mem1 : ∀ d : Nat, gh.any (fun y => cond (Nat.beq y.1 1) (cond (Nat.beq y.2.1 xa) (Nat.beq y.2.2.1 d) false) false) = true → ∀ F, xg fam xa = some F → gRI F d g := by
    intro d h
    obtain ⟨z, hz, h1⟩ := List.any_eq_true.mp h
    obtain ⟨z1, h1⟩ := xcnb h1
    obtain ⟨z2, z3⟩ := xcnb h1
    have hG := hC.2.2.2 z hz
    obtain ⟨zk, za, zb, ze⟩ := z
    have e1 : zk = 1 := xeqb z1
    have e2 : za = xa := xeqb z2
    have e3 : zb = d := xeqb z3
    subst e1; subst e2; subst e3
    exact hG
  split at h
  · rcases xcnt h with h | h
    · exact mem1 xb h
    · obtain ⟨h1, h⟩ := xcnb h
      have e : xb = 0 := xeqb h1
      subst e
      show ∀ F, xg fam xa = some F → gRI F 0 g
      intro F hF
      rw [hF] at h
      dsimp only at h
      rcases xcnt h with h | h
      · cases hn : gnum env mem F.1.1 F.1.2.1 ((F.1.2.2 : Int), []) with
        | none => rw [hn] at h; cases h
        | some n =>
          rw [hn] at h
          have en := gnumN hC hn
          rcases xcnt h with h | h
          · have := elef_ok hC.1 hC.2.1 2 _ h
            exact ⟨by omega, fun r hr => absurd hr (by omega)⟩
          · obtain ⟨h2, h3⟩ := xcnb h
            exact glast_ok hC en (mem1 1 h2 F hF) h3
      · obtain ⟨f2, -, h⟩ := List.any_eq_true.mp h
        exact gcpy_ok hC h
  · show ∀ j : Nat, (j : Int) < ev ρ xe → g AT (xa + j) = g AT (xb + j)
    rcases xcnt h with h | h
    · have := elef_ok hC.1 hC.2.1 2 _ h
      intro j hj
      omega
    · obtain ⟨y, hy, h⟩ := List.any_eq_true.mp h
      obtain ⟨y1, h⟩ := xcnb h
      obtain ⟨y2, h⟩ := xcnb h
      obtain ⟨y3, hE⟩ := xcnb h
      have hG := hC.2.2.2 y hy
      obtain ⟨yk, ya, yb, ye⟩ := y
      have e1 : yk = 2 := xeqb y1
      have e2 : ya = xa := xeqb y2
      have e3 : yb = xb := xeqb y3
      subst e1; subst e2; subst e3
      have hG : ∀ j : Nat, (j : Int) < ev ρ ye → g AT (ya + j) = g AT (yb + j) := hG
      have e : ev ρ ye = ev ρ xe := eeq_ok hC.1 hE
      rw [← e]
      exact hG
  · show ∀ j : Nat, (j : Int) < ev ρ xe → g xa j = g xb j
    rcases xcnt h with h | h
    · have := elef_ok hC.1 hC.2.1 2 _ h
      intro j hj
      omega
    · obtain ⟨y, hy, h⟩ := List.any_eq_true.mp h
      obtain ⟨y1, h⟩ := xcnb h
      obtain ⟨y2, h⟩ := xcnb h
      obtain ⟨y3, hE⟩ := xcnb h
      have hG := hC.2.2.2 y hy
      obtain ⟨yk, ya, yb, ye⟩ := y
      have e1 : yk = 3 := xeqb y1
      have e2 : ya = xa := xeqb y2
      have e3 : yb = xb := xeqb y3
      subst e1; subst e2; subst e3
      have hG : ∀ j : Nat, (j : Int) < ev ρ ye → g ya j = g yb j := hG
      have e : ev ρ ye = ev ρ xe := eeq_ok hC.1 hE
      rw [← e]
      exact hG
  · show psum g xa xb = π + ev ρ xe
    obtain ⟨y, hy, h⟩ := List.any_eq_true.mp h
    obtain ⟨y1, h⟩ := xcnb h
    obtain ⟨y2, h⟩ := xcnb h
    obtain ⟨y3, hE⟩ := xcnb h
    have hG := hC.2.2.2 y hy
    obtain ⟨yk, ya, yb, ye⟩ := y
    have e1 : yk = 4 := xeqb y1
    have e2 : ya = xa := xeqb y2
    have e3 : yb = xb := xeqb y3
    subst e1; subst e2; subst e3
    have hG : psum g ya yb = π + ev ρ ye := hG
    have e : ev ρ ye = ev ρ xe := eeq_ok hC.1 hE
    rw [← e]
    exact hG
  · obtain ⟨y, hy, h⟩ := List.any_eq_true.mp h
    obtain ⟨y1, h⟩ := xcnb h
    obtain ⟨y2, hE⟩ := xcnb h
    have hG := hC.2.2.2 y hy
    obtain ⟨yk, ya, yb, ye⟩ := y
    have e1 : yk = 50 := xeqb y1
    have e2 : ya = xa := xeqb y2
    subst e1; subst e2
    have hG : ∃ n : Nat, ev ρ ye = (n : Int) ∧ (sv n).toInt = ρ ya := hG
    have e : ev ρ ye = ev ρ xe := eeq_ok hC.1 hE
    rw [e] at hG
    exact hG
  · obtain ⟨y, hy, h⟩ := List.any_eq_true.mp h
    obtain ⟨y1, y2⟩ := xcnb h
    have hG := hC.2.2.2 y hy
    obtain ⟨yk, ya, yb, ye⟩ := y
    have e1 : yk = 51 := xeqb y1
    have e2 : ya = xa := xeqb y2
    subst e1
    have hG : ρ ya = (el 0 : Int) := hG
    show ρ xa = _
    rw [← e2]
    exact hG
  · cases h
end Gho6
end
section
/-! Ghosts of runs (kinds from 70 on) beside the others -/
section J
variable {XG : Nat → Nat → Nat → Int → cg → Prop} {sv : Nat → Int32} {el : Nat → Nat} {h0 : xheap} {tyt : Lean.RArray (Nat × Nat)} {fam : Lean.RArray (Nat × afam)} {AT : Nat} {π : Int}
def gGJ (XG : Nat → Nat → Nat → Int → cg → Prop) (fam : Lean.RArray (Nat × afam)) (AT : Nat) (π : Int) (k a b : Nat) (E : Int) (g : cg) : Prop := match Nat.ble 70 k with
  | true => XG k a b E g
  | false => gGH fam AT π k a b E g
def jf (gh : List gho) : List gho := gh.filter (fun x => !(Nat.ble 70 x.1))
theorem jf_lt {x : gho} {gh : List gho} (h : x ∈ jf gh) : x ∈ gh ∧ Nat.ble 70 x.1 = false := by
  obtain ⟨h1, h2⟩ := List.mem_filter.mp h
  refine ⟨h1, ?_⟩
  cases hb : Nat.ble 70 x.1 with
  | false => rfl
  | true => rw [hb] at h2; cases h2
theorem aGSd_j {x : gho} {ρ : Nat → Int} {g : cg} (h : Nat.ble 70 x.1 = false) : aGSd sv el (gGJ XG fam AT π) x ρ g ↔ aGSd sv el (gGH fam AT π) x ρ g := by
  obtain ⟨k, a, b, e⟩ := x
  have h : Nat.ble 70 k = false := h
  unfold aGSd
  dsimp only
  split
  · exact Iff.rfl
  · exact Iff.rfl
  · unfold gGJ
    rw [h]
theorem aGSd_x {x : gho} {ρ : Nat → Int} {g : cg} (h : Nat.ble 70 x.1 = true) : aGSd sv el (gGJ XG fam AT π) x ρ g ↔ XG x.1 x.2.1 x.2.2.1 (ev ρ x.2.2.2) g := by
  obtain ⟨k, a, b, e⟩ := x
  have h : Nat.ble 70 k = true := h
  unfold aGSd
  dsimp only
  split
  · cases h
  · cases h
  · unfold gGJ
    rw [h]
theorem coR_j {env : aenv} {fx : List ae} {mem : List am} {gh : List gho} {g : cg} {ρ : Nat → Int} (h : coR h0 tyt (aGSd sv el (gGJ XG fam AT π)) env fx mem gh g ρ) : coR h0 tyt (aGSd sv el (gGH fam AT π)) env fx mem (jf gh) g ρ :=
  ⟨h.1, h.2.1, h.2.2.1, fun x hx => (aGSd_j (jf_lt hx).2).mp (h.2.2.2 x (jf_lt hx).1)⟩
theorem ghR_j {gh : List gho} {g : cg} {ρ : Nat → Int} (h : ghR (aGSd sv el (gGH fam AT π)) gh ρ g) : ghR (aGSd sv el (gGJ XG fam AT π)) (jf gh) ρ g :=
  fun x hx => (aGSd_j (jf_lt hx).2).mpr (h x (jf_lt hx).1)
noncomputable def jHK (HK : aenv → List ae → List am → List gho → Nat → ae → ae → Int × Int → Int × Int) (env : aenv) (fx : List ae) (mem : List am) (gh : List gho) (t : Nat) (c i : ae) (b : Int × Int) : Int × Int := HK env fx mem (jf gh) t c i b
theorem jHK_ok {HK} (h : aHK h0 tyt (aGSd sv el (gGH fam AT π)) HK) : aHK h0 tyt (aGSd sv el (gGJ XG fam AT π)) (jHK HK) :=
  fun env fx mem gh g ρ t c i b k j hC => h env fx mem (jf gh) g ρ t c i b k j (coR_j hC)
/-- kind 70 of more is kind 70 of less -/
def x70 (XG : Nat → Nat → Nat → Int → cg → Prop) : Prop := (∀ (a b a' b' : Nat) (E E' : Int) (g : cg), XG 70 a b E g → E' ≤ E → XG 70 a' b' E' g) ∧ ∀ (a b : Nat) (E : Int) (g g' : cg), XG 70 a b E g → g' 2 = g 2 → g' 89 = g 89 → g' 259 = g 259 → XG 70 a b E g'
/-- the type is the tape's, or the keys' -/
noncomputable def jty (tyt : Lean.RArray (Nat × Nat)) (t : Nat) : Bool := cond (xtq tyt 2 t) true (cond (xtq tyt 89 t) true (xtq tyt 259 t))
theorem jty_ok {t k : Nat} (h : jty tyt t = false) (hk : xg tyt k = some t) : k ≠ 2 ∧ k ≠ 89 ∧ k ≠ 259 := by
  refine ⟨fun e => ?_, fun e => ?_, fun e => ?_⟩
  · rw [e] at hk
    unfold jty at h
    rw [xtq_ok hk] at h
    cases h
  · rw [e] at hk
    unfold jty at h
    rw [xtq_ok hk] at h
    cases hb : xtq tyt 2 t <;> rw [hb] at h <;> cases h
  · rw [e] at hk
    unfold jty at h
    rw [xtq_ok hk] at h
    cases hb : xtq tyt 2 t <;> rw [hb] at h
    · cases hc : xtq tyt 89 t <;> rw [hc] at h <;> cases h
    · cases h
noncomputable def jkp (tyt : Lean.RArray (Nat × Nat)) (t : Nat) (gh : List gho) : List gho := cond (jty tyt t) [] (gh.filter (fun x => Nat.beq x.1 70))
theorem jkp_ok (hX : x70 XG) {env : aenv} {fx : List ae} {mem : List am} {gh : List gho} {g g' : cg} {ρ : Nat → Int} {t k : Nat} (hC : coR h0 tyt (aGSd sv el (gGJ XG fam AT π)) env fx mem gh g ρ) (hk : xg tyt k = some t) (hg : ∀ k' : Nat, k' ≠ k → g' k' = g k') : ghR (aGSd sv el (gGJ XG fam AT π)) (jkp tyt t gh) ρ g' := by
  intro x hx
  unfold jkp at hx
  cases hb : jty tyt t with
  | true => rw [hb] at hx; exact absurd hx List.not_mem_nil
  | false =>
    rw [hb] at hx
    obtain ⟨n1, n2, n3⟩ := jty_ok hb hk
    obtain ⟨x1, x2⟩ := List.mem_filter.mp hx
    have ex : x.1 = 70 := xeqb x2
    have hy := hC.2.2.2 x x1
    rw [aGSd_x (by rw [ex]; rfl), ex] at hy
    rw [aGSd_x (by rw [ex]; rfl), ex]
    exact hX.2 _ _ _ g g' hy (hg 2 (Ne.symm n1)) (hg 89 (Ne.symm n2)) (hg 259 (Ne.symm n3))
/-- what kind 72 looks at: cells, places from, to; it stands where these are the same; at another base if the reference's court was copied there -/
def xRL (XG : Nat → Nat → Nat → Int → cg → Prop) (dep : Nat → List (Nat × Int × Int)) (AT : Nat) : Prop := (∀ (a b b' : Nat) (E E' : Int) (g g' : cg), XG 72 a b E g → (∀ q ∈ dep a, ∀ j : Nat, q.2.1 ≤ (j : Int) → (j : Int) ≤ q.2.2 → g' q.1 j = g q.1 j) → XG 72 a b' E' g') ∧ ∀ (a a' b : Nat) (E : Int) (g : cg), a < 9000 → a' < 9000 → XG 72 a b E g → (∀ j : Nat, j < 260 → g AT (a' + j) = g AT (a + j)) → XG 72 a' b E g
section JR
variable {dep : Nat → List (Nat × Int × Int)}
/-- a store doesn't lie there -/
noncomputable def jms (tyt : Lean.RArray (Nat × Nat)) (env : aenv) (fx : List ae) (t : Nat) (c i : ae) (q : Nat × Int × Int) : Bool := cond (xtq tyt q.1 t) (cond (ene env c ((q.1 : Int), [])) true (cond (elef env fx 2 (eadc i (Int.add 1 (Int.neg q.2.1)))) true (elef env fx 2 (eadc (escl i (-1)) (Int.add q.2.2 1))))) true
theorem jms_ok {env : aenv} {fx : List ae} {ρ : Nat → Int} (hE : envR env ρ) (hF : fxR fx ρ) {t k j : Nat} {c i : ae} {q : Nat × Int × Int} (h : jms tyt env fx t c i q = true) (hc : ev ρ c = (k : Int)) (hi : ev ρ i = (j : Int)) (hk : xg tyt k = some t) : ∀ j' : Nat, q.2.1 ≤ (j' : Int) → (j' : Int) ≤ q.2.2 → ¬ (q.1 = k ∧ j' = j) := by
  intro j' h1 h2 ⟨e1, e2⟩
  unfold jms at h
  rw [xtq_ok (k := q.1) (t := t) (by rw [e1]; exact hk)] at h
  simp only [cond_true] at h
  cases h3 : ene env c ((q.1 : Int), []) with
  | true =>
    have := ene_ok hE h3
    rw [evc, hc, e1] at this
    exact this rfl
  | false =>
    rw [h3] at h
    simp only [cond_false] at h
    cases h4 : elef env fx 2 (eadc i (Int.add 1 (Int.neg q.2.1))) with
    | true =>
      have h5 := elef_ok hE hF 2 _ h4
      rw [eadc_ev, hi] at h5
      have h5 : (j : Int) + (1 + -q.2.1) ≤ 0 := h5
      omega
    | false =>
      rw [h4] at h
      simp only [cond_false] at h
      have h5 := elef_ok hE hF 2 _ h
      rw [eadc_ev, escl_ev, hi] at h5
      have h5 : -1 * (j : Int) + (q.2.2 + 1) ≤ 0 := h5
      omega
noncomputable def jst (tyt : Lean.RArray (Nat × Nat)) (dep : Nat → List (Nat × Int × Int)) (env : aenv) (fx : List ae) (t : Nat) (c i : ae) (gh : List gho) : List gho := gh.filter (fun x => cond (Nat.beq x.1 72) ((dep x.2.1).all (fun q => jms tyt env fx t c i q)) false)
noncomputable def jHS (tyt : Lean.RArray (Nat × Nat)) (dep : Nat → List (Nat × Int × Int)) (HS : aenv → List ae → List am → List gho → Nat → ae → ae → av → List gho) (env : aenv) (fx : List ae) (mem : List am) (gh : List gho) (t : Nat) (c i : ae) (v : av) : List gho := jkp tyt t gh ++ (jst tyt dep env fx t c i gh ++ jf (HS env fx mem (jf gh) t c i v))
theorem jHS_ok (hY : x70 XG) (hX : xRL XG dep AT) {HS} (h : aHS h0 tyt (aGSd sv el (gGH fam AT π)) HS) : aHS h0 tyt (aGSd sv el (gGJ XG fam AT π)) (jHS tyt dep HS) := by
  intro env fx mem gh g ρ t c i v k j hC h1 h2 h3 h4 x hx
  rcases List.mem_append.mp hx with hx | hx
  · exact jkp_ok hY hC h3 (fun k' hk' => funext fun j' => by
      unfold cup
      rw [if_neg (fun e => hk' e.1)]) x hx
  rcases List.mem_append.mp hx with hx | hx
  · obtain ⟨x1, x2⟩ := List.mem_filter.mp hx
    obtain ⟨x2, x3⟩ := xcnb x2
    have ex : x.1 = 72 := xeqb x2
    have hy := hC.2.2.2 x x1
    rw [aGSd_x (by rw [ex]; rfl), ex] at hy
    rw [aGSd_x (by rw [ex]; rfl), ex]
    refine hX.1 _ _ _ _ _ g _ hy (fun q hq j' h5 h6 => ?_)
    have h7 := jms_ok hC.1 hC.2.1 (List.all_eq_true.mp x3 q hq) h1 h2 h3 j' h5 h6
    unfold cup
    rw [if_neg (fun e => h7 ⟨e.1, e.2⟩)]
  · exact ghR_j (h env fx mem (jf gh) g ρ t c i v k j (coR_j hC) h1 h2 h3 h4) x hx
noncomputable def jHA (tyt : Lean.RArray (Nat × Nat)) (dep : Nat → List (Nat × Int × Int)) (HA : aenv → List ae → List am → List gho → Nat → ae → Nat → ae → ae → ae → ae → List gho) (env : aenv) (fx : List ae) (mem : List am) (gh : List gho) (ta : Nat) (ca : ae) (tb : Nat) (cb sp dp m : ae) : List gho := jkp tyt tb gh ++ (gh.filter (fun x => cond (Nat.beq x.1 72) ((dep x.2.1).all (fun q => !xtq tyt q.1 tb)) false) ++ jf (HA env fx mem (jf gh) ta ca tb cb sp dp m))
theorem jHA_ok (hY : x70 XG) (hX : xRL XG dep AT) {HA} (h : aHA h0 tyt (aGSd sv el (gGH fam AT π)) HA) : aHA h0 tyt (aGSd sv el (gGJ XG fam AT π)) (jHA tyt dep HA) := by
  intro env fx mem gh g ρ ta ca tb cb sp dp m ka kb s d n hC h1 h2 h3 h4 h5 h6 h7 x hx
  rcases List.mem_append.mp hx with hx | hx
  · exact jkp_ok hY hC h4 (fun k' hk' => funext fun j' => by
      unfold ccp
      rw [if_neg (fun e => hk' e.1)]) x hx
  rcases List.mem_append.mp hx with hx | hx
  · obtain ⟨x1, x2⟩ := List.mem_filter.mp hx
    obtain ⟨x2, x3⟩ := xcnb x2
    have ex : x.1 = 72 := xeqb x2
    have hy := hC.2.2.2 x x1
    rw [aGSd_x (by rw [ex]; rfl), ex] at hy
    rw [aGSd_x (by rw [ex]; rfl), ex]
    refine hX.1 _ _ _ _ _ g _ hy (fun q hq j' h8 h9 => ?_)
    have h10 := List.all_eq_true.mp x3 q hq
    unfold ccp
    rw [if_neg (fun e => by
      rw [xtq_ok (k := q.1) (t := tb) (by rw [e.1]; exact h4)] at h10
      cases h10)]
  · exact ghR_j (h env fx mem (jf gh) g ρ ta ca tb cb sp dp m ka kb s d n (coR_j hC) h1 h2 h3 h4 h5 h6 h7) x hx
/-- one place more of a copy, where both places hold the same -/
noncomputable def jcx (ta AT : Nat) (env : aenv) (mem : List am) (gh : List gho) (x : gho) : Bool := gh.any (fun y => cond (Nat.beq y.1 2) (cond (Nat.beq y.2.1 x.2.1) (cond (Nat.beq y.2.2.1 x.2.2.1) (cond (eeq env x.2.2.2 (eadc y.2.2.2 1)) (match gnum env mem ta AT (eadc y.2.2.2 (y.2.1 : Int)) with
  | none => false
  | some u => match gnum env mem ta AT (eadc y.2.2.2 (y.2.2.1 : Int)) with
    | none => false
    | some w => eeq env u w) false) false) false) false)
/-- what can't be -/
noncomputable def jno (env : aenv) (fx : List ae) : Bool := fx.any (fun f => elef env [] 1 (eadc (escl f (-1)) 1))
theorem jno_ok {env : aenv} {fx : List ae} {ρ : Nat → Int} (hE : envR env ρ) (hF : fxR fx ρ) (h : jno env fx = true) : False := by
  obtain ⟨f, hf, e⟩ := List.any_eq_true.mp h
  have e := elef_ok hE (show fxR [] ρ from fun _ z => absurd z List.not_mem_nil) 1 _ e
  rw [eadc_ev, escl_ev] at e
  have := hF f hf
  omega
noncomputable def jHH (ta AT : Nat) (HH : aenv → List ae → List am → List gho → gho → Bool) (env : aenv) (fx : List ae) (mem : List am) (gh : List gho) (x : gho) : Bool := cond (Nat.ble 70 x.1) (cond (Nat.beq x.1 72) (cond (jrl env fx gh x.2.1) true (jno env fx)) (cond (Nat.beq x.1 70) (gh.any (fun y => cond (Nat.beq y.1 70) (elef env fx 2 (eadd x.2.2.2 y.2.2.2 (-1))) false)) false)) (cond (cond (Nat.beq x.1 2) (jcx ta AT env mem gh x) false) true (HH env fx mem (jf gh) x))
theorem jrl_ok (hX : xRL XG dep AT) {env : aenv} {fx : List ae} {mem : List am} {gh : List gho} {g : cg} {ρ : Nat → Int} {a : Nat} (hC : coR h0 tyt (aGSd sv el (gGJ XG fam AT π)) env fx mem gh g ρ) (h : jrl env fx gh a = true) (b : Nat) (E : Int) : XG 72 a b E g := by
  obtain ⟨y, hy, e⟩ := List.any_eq_true.mp h
  obtain ⟨e1, e2⟩ := xcnb e
  have ey : y.1 = 72 := xeqb e1
  have hz := hC.2.2.2 y hy
  rw [aGSd_x (by rw [ey]; rfl), ey] at hz
  rcases xcnt e2 with e3 | e3
  · have e4 : y.2.1 = a := xeqb e3
    rw [e4] at hz
    exact hX.1 a _ b _ E g g hz (fun _ _ _ _ _ => rfl)
  · cases b1 : Nat.ble 9000 a with
    | true => rw [b1] at e3; cases e3
    | false =>
    rw [b1] at e3
    cases b2 : Nat.ble 9000 y.2.1 with
    | true => rw [b2] at e3; cases e3
    | false =>
    rw [b2] at e3
    have b1 : a < 9000 := Nat.lt_of_not_le (fun q => by rw [Nat.ble_eq_true_of_le q] at b1; cases b1)
    have b2 : y.2.1 < 9000 := Nat.lt_of_not_le (fun q => by rw [Nat.ble_eq_true_of_le q] at b2; cases b2)
    simp only [cond_false] at e3
    obtain ⟨w, hw, f⟩ := List.any_eq_true.mp e3
    obtain ⟨f1, f⟩ := xcnb f
    obtain ⟨f2, f⟩ := xcnb f
    obtain ⟨f3, f⟩ := xcnb f
    have f1 : w.1 = 2 := xeqb f1
    have f2 : w.2.1 = a := xeqb f2
    have f3 : w.2.2.1 = y.2.1 := xeqb f3
    have f := elef_ok hC.1 hC.2.1 2 _ f
    rw [eadc_ev, escl_ev] at f
    have hw2 := hC.2.2.2 w hw
    rw [aGSd_j (by rw [f1]; rfl)] at hw2
    have hw3 : ∀ j : Nat, (j : Int) < ev ρ w.2.2.2 → g AT (w.2.1 + j) = g AT (w.2.2.1 + j) := by
      obtain ⟨w1, w2, w3, w4⟩ := w
      have f1 : w1 = 2 := f1
      subst f1
      exact hw2
    rw [f2, f3] at hw3
    exact hX.1 a _ b _ E g g (hX.2 _ a _ _ g b2 b1 hz (fun j hj => hw3 j (by omega))) (fun _ _ _ _ _ => rfl)
theorem jHH_ok (hY : x70 XG) (hX : xRL XG dep AT) {ta : Nat} {HH} (h : aHH h0 tyt (aGSd sv el (gGH fam AT π)) HH) : aHH h0 tyt (aGSd sv el (gGJ XG fam AT π)) (jHH ta AT HH) := by
  intro env fx mem gh x g ρ hh hC
  unfold jHH at hh
  cases hb : Nat.ble 70 x.1 with
  | false =>
    rw [hb] at hh
    rcases xcnt (show cond (cond (Nat.beq x.1 2) (jcx ta AT env mem gh x) false) true (HH env fx mem (jf gh) x) = true from hh) with hh | hh
    · obtain ⟨h1, h2⟩ := xcnb hh
      obtain ⟨y, hy, e⟩ := List.any_eq_true.mp h2
      obtain ⟨e1, e⟩ := xcnb e
      obtain ⟨e2, e⟩ := xcnb e
      obtain ⟨e3, e⟩ := xcnb e
      obtain ⟨e4, e⟩ := xcnb e
      have e1 : y.1 = 2 := xeqb e1
      have e2 : y.2.1 = x.2.1 := xeqb e2
      have e3 : y.2.2.1 = x.2.2.1 := xeqb e3
      have e4 := eeq_ok hC.1 e4
      rw [eadc_ev] at e4
      split at e
      · cases e
      · rename_i u hu
        split at e
        · cases e
        · rename_i w hw
          have e5 := eeq_ok hC.1 e
          obtain ⟨j1, u1, u2, -⟩ := gnum_ok hC hu
          obtain ⟨j2, w1, w2, -⟩ := gnum_ok hC hw
          rw [eadc_ev] at u1 w1
          have hy2 := hC.2.2.2 y hy
          rw [aGSd_j (by rw [e1]; rfl)] at hy2
          have hy3 : ∀ j : Nat, (j : Int) < ev ρ y.2.2.2 → g AT (y.2.1 + j) = g AT (y.2.2.1 + j) := by
            obtain ⟨yk, ya, yb, ye⟩ := y
            have e1 : yk = 2 := e1
            subst e1
            exact hy2
          have ex : x.1 = 2 := xeqb h1
          have key : ∀ j : Nat, (j : Int) < ev ρ x.2.2.2 → g AT (x.2.1 + j) = g AT (x.2.2.1 + j) := by
            intro j hj
            rw [← e2, ← e3]
            by_cases q : (j : Int) < ev ρ y.2.2.2
            · exact hy3 j q
            · have q1 : j1 = y.2.1 + j := by omega
              have q2 : j2 = y.2.2.1 + j := by omega
              rw [← q1, ← q2, u2, w2, e5]
          rw [aGSd_j hb]
          obtain ⟨x1, x2, x3, x4⟩ := x
          have ex : x1 = 2 := ex
          subst ex
          exact key
    · exact (aGSd_j hb).mpr (h env fx mem (jf gh) x g ρ hh (coR_j hC))
  | true =>
    rw [hb] at hh
    have hh : cond (Nat.beq x.1 72) (cond (jrl env fx gh x.2.1) true (jno env fx)) (cond (Nat.beq x.1 70) (gh.any (fun y => cond (Nat.beq y.1 70) (elef env fx 2 (eadd x.2.2.2 y.2.2.2 (-1))) false)) false) = true := hh
    cases h1 : Nat.beq x.1 72 with
    | true =>
      rw [h1] at hh
      have ex : x.1 = 72 := xeqb h1
      rw [aGSd_x hb, ex]
      rcases xcnt hh with hh | hh
      · exact jrl_ok hX hC hh _ _
      · exact (jno_ok hC.1 hC.2.1 hh).elim
    | false =>
      rw [h1] at hh
      obtain ⟨h1, h2⟩ := xcnb (show cond (Nat.beq x.1 70) _ false = true from hh)
      obtain ⟨y, hy, h3⟩ := List.any_eq_true.mp h2
      obtain ⟨h4, h5⟩ := xcnb h3
      have h6 := elef_ok hC.1 hC.2.1 2 _ h5
      rw [eadd_ev] at h6
      have hy2 := hC.2.2.2 y hy
      have ex : x.1 = 70 := xeqb h1
      have ey : y.1 = 70 := xeqb h4
      rw [aGSd_x (by rw [ey]; rfl), ey] at hy2
      rw [aGSd_x hb, ex]
      exact hY.1 _ _ _ _ _ _ _ hy2 (by omega)
noncomputable def jHW (tyt : Lean.RArray (Nat × Nat)) (dep : Nat → List (Nat × Int × Int)) (HW : aenv → List ae → List am → List gho → List awr → List gho) (env : aenv) (fx : List ae) (mem : List am) (gh : List gho) (wr : List awr) : List gho := cond (cond (xrw tyt wr 2) (cond (xrw tyt wr 89) (xrw tyt wr 259) false) false) (gh.filter (fun x => Nat.beq x.1 70)) [] ++ (gh.filter (fun x => cond (Nat.beq x.1 72) ((dep x.2.1).all (fun q => jwq tyt wr q)) false) ++ jf (HW env fx mem (jf gh) wr))
theorem jHW_ok (hY : x70 XG) (hX : xRL XG dep AT) {HW} (h : aHW h0 tyt (aGSd sv el (gGH fam AT π)) HW) : aHW h0 tyt (aGSd sv el (gGJ XG fam AT π)) (jHW tyt dep HW) := by
  intro env fx mem gh wr g g' ρ hC hg x hx
  rcases List.mem_append.mp hx with hx | hx
  · cases hb : cond (xrw tyt wr 2) (cond (xrw tyt wr 89) (xrw tyt wr 259) false) false with
    | false => rw [hb] at hx; exact absurd hx List.not_mem_nil
    | true =>
      rw [hb] at hx
      obtain ⟨b1, b2⟩ := xcnb hb
      obtain ⟨b2, b3⟩ := xcnb b2
      obtain ⟨x1, x2⟩ := List.mem_filter.mp hx
      have ex : x.1 = 70 := xeqb x2
      have hy := hC.2.2.2 x x1
      rw [aGSd_x (by rw [ex]; rfl), ex] at hy
      rw [aGSd_x (by rw [ex]; rfl), ex]
      exact hY.2 _ _ _ g g' hy (funext fun j => hg 2 j (xrw_ok b1 j)) (funext fun j => hg 89 j (xrw_ok b2 j)) (funext fun j => hg 259 j (xrw_ok b3 j))
  rcases List.mem_append.mp hx with hx | hx
  · obtain ⟨x1, x2⟩ := List.mem_filter.mp hx
    obtain ⟨x2, x3⟩ := xcnb x2
    have ex : x.1 = 72 := xeqb x2
    have hy := hC.2.2.2 x x1
    rw [aGSd_x (by rw [ex]; rfl), ex] at hy
    rw [aGSd_x (by rw [ex]; rfl), ex]
    exact hX.1 _ _ _ _ _ g g' hy (fun q hq j h5 h6 => hg q.1 j (jwq_ok (List.all_eq_true.mp x3 q hq) h5 h6))
  · exact ghR_j (h env fx mem (jf gh) wr g g' ρ (coR_j hC) hg) x hx
end JR
end J
end
section
/-! A loop that a sum of counters ends; all instances but one -/
section Pot
variable {XG : Nat → Nat → Nat → Int → cg → Prop}
variable {sv : Nat → Int32} {cd : xcd} {mi : xmi} {df : xdf} {el ec : Nat → Nat} {eb : Nat → List Nat} {G : xG} {h0 : xheap} {n0 : Nat} {cn0 sn0 : Nat → Nat}
variable {tyt : Lean.RArray (Nat × Nat)} {typs : Lean.RArray (Nat × aty)} {fam : Lean.RArray (Nat × afam)} {AT : Nat}
variable {HK : aenv → List ae → List am → List gho → Nat → ae → ae → Int × Int → Int × Int} {HS : aenv → List ae → List am → List gho → Nat → ae → ae → av → List gho}
variable {HA : aenv → List ae → List am → List gho → Nat → ae → Nat → ae → ae → ae → ae → List gho} {HH : aenv → List ae → List am → List gho → gho → Bool} {HW : aenv → List ae → List am → List gho → List awr → List gho}
variable {inl : Nat → Bool} {fl : Nat → Nat → Nat} {spl : Nat → Nat → Option (Nat × Nat × Nat × Nat × List Int)} {cand : Nat → List Nat} {INS : Lean.RArray (Nat × ains)}
def agl (P : apat) (l : List gho) (m : ae) : apat := (P.1, P.2.1, P.2.2.1, P.2.2.2.1, P.2.2.2.2.1, P.2.2.2.2.2.1, l, m)
def ago (I : ains) (P : apat) (pc a b : Nat) : ains := (I.1, I.2.1, I.2.2.1, [(pc, [agl P [(4, a, b, (-1, []))] (0, []), agl P [(4, a, b, (0, []))] P.2.2.2.2.2.2.2])], I.2.2.2.2.1, I.2.2.2.2.2)
def anl {α : Type} : List α → Bool
  | [] => true
  | _ :: _ => false
theorem anil {α : Type} {l : List α} (h : anl l = true) : l = [] := by
  cases l with
  | nil => rfl
  | cons q l => cases h
noncomputable def achP (h0 : xheap) (tyt : Lean.RArray (Nat × Nat)) (typs : Lean.RArray (Nat × aty)) (HK : aenv → List ae → List am → List gho → Nat → ae → ae → Int × Int → Int × Int) (HS : aenv → List ae → List am → List gho → Nat → ae → ae → av → List gho) (HA : aenv → List ae → List am → List gho → Nat → ae → Nat → ae → ae → ae → ae → List gho) (HH : aenv → List ae → List am → List gho → gho → Bool) (HW : aenv → List ae → List am → List gho → List awr → List gho) (cd : xcd) (mi : xmi) (el : Nat → Nat) (eb : Nat → List Nat) (inl : Nat → Bool) (fl : Nat → Nat → Nat) (spl : Nat → Nat → Option (Nat × Nat × Nat × Nat × List Int)) (cand : Nat → List Nat) (INS : Lean.RArray (Nat × ains)) (f pc a b : Nat) (I : ains) (P : apat) : Bool :=
  cond (awfI I) (cond (arnI h0 tyt typs HK HS HA HH HW cd mi el eb inl fl spl cand INS f 0 I I.2.2.1 none 0) (cond (arnI h0 tyt typs HK HS HA HH HW cd mi el eb inl fl spl cand INS f 0 (ago I P pc a b) (agl P [(4, a, b, (0, []))] P.2.2.2.2.2.2.2) (some P.2.2.2.2.2.2.2) pc) (cond (awfP (agl P [(4, a, b, (0, []))] P.2.2.2.2.2.2.2)) (cond (anl P.2.2.2.2.2.2.1) (I.2.2.2.2.1.all (fun Q => anl Q.2.2.2.2.2.2.1)) false) false) false) false) false
theorem apot_ok (hB : ∀ π, aBase sv cd mi df el ec eb G h0 cn0 sn0 tyt typs (gGJ XG fam AT π) HK HS HA HH HW) {f pc a b : Nat} {I : ains} {P : apat} (hI : I.2.2.2.1 = [(pc, [P])]) (h : achP h0 tyt typs HK HS HA HH HW cd mi ec eb inl fl spl cand INS f pc a b I P = true) : awfI I = true ∧ aInsOK G h0 n0 cn0 sn0 tyt typs (aGSd sv el (gGJ XG fam AT 0)) I := by
  obtain ⟨c1, h⟩ := xcnb h
  obtain ⟨c2, h⟩ := xcnb h
  obtain ⟨c3, h⟩ := xcnb h
  obtain ⟨c4, h⟩ := xcnb h
  obtain ⟨c5, c6⟩ := xcnb h
  refine ⟨c1, ?_⟩
  obtain ⟨w1, w⟩ := xcnb c1
  obtain ⟨w2, w3⟩ := xcnb w
  have hgP := anil c5
  have hgQ : ∀ Q ∈ I.2.2.2.2.1, Q.2.2.2.2.2.2.1 = [] := fun Q hQ => anil (List.all_eq_true.mp c6 Q hQ)
  rw [hI] at w3
  have wP := List.all_eq_true.mp (List.all_eq_true.mp w3 (pc, [P]) List.mem_cons_self) P List.mem_cons_self
  obtain ⟨v1, wP⟩ := xcnb wP
  obtain ⟨v2, v3⟩ := xcnb wP
  have conv : ∀ (π π' : Int) (Q : apat) (ρ : Nat → Int) (g : cg) (lsc : List (Nat × cv)) (stc : List cv) (rv : Option cv), Q.2.2.2.2.2.2.1 = [] → patR h0 tyt (aGSd sv el (gGJ XG fam AT π)) Q ρ g lsc stc rv → patR h0 tyt (aGSd sv el (gGJ XG fam AT π')) Q ρ g lsc stc rv := by
    intro π π' Q ρ g lsc stc rv hQ hp
    obtain ⟨p1, p2, p3, p4, p5, p6, p7⟩ := hp
    exact ⟨p1, p2, p3, p4, p5, p6, by rw [hQ]; exact fun x hx => absurd hx List.not_mem_nil⟩
  intro ρe g0 lsc0 d0 hpat0 hInv0 hd0
  have convQ : ∀ (π π' : Int) (g' : cg) (rv : Option cv), aQi h0 tyt typs (aGSd sv el (gGJ XG fam AT π)) I ρe g0 g' rv → aQi h0 tyt typs (aGSd sv el (gGJ XG fam AT π')) I ρe g0 g' rv := by
    intro π π' g' rv hq
    obtain ⟨q1, q2, Q, hQ, ρ2, q3, q4⟩ := hq
    exact ⟨q1, q2, Q, hQ, ρ2, q3, conv π π' Q ρ2 g' [] [] rv (hgQ Q hQ) q4⟩
  have one : ∀ (ρc : Nat → Int) (g : cg) (lsc : List (Nat × cv)) (stc : List cv) (d : Nat), aag I.2.2.1.2.2.2.2.1.length ρe ρc → patR h0 tyt (aGSd sv el (gGJ XG fam AT 0)) P ρc g lsc stc none → aInv tyt typs g → (∀ k j : Nat, ¬ awc tyt I.2.2.2.2.2 k j → g k j = g0 k j) → I.2.1 ≤ d →
      (∀ (ρ2 : Nat → Int) (g' : cg) (lsc' : List (Nat × cv)) (stc' : List cv) (d' : Nat), aag I.2.2.1.2.2.2.2.1.length ρe ρ2 → patR h0 tyt (aGSd sv el (gGJ XG fam AT 0)) P ρ2 g' lsc' stc' none → aInv tyt typs g' → (∀ k j : Nat, ¬ awc tyt I.2.2.2.2.2 k j → g' k j = g0 k j) → I.2.1 ≤ d' → (psum g' a b = psum g a b - 1 ∨ (psum g' a b = psum g a b ∧ 0 ≤ ev ρ2 P.2.2.2.2.2.2.2 ∧ ev ρ2 P.2.2.2.2.2.2.2 < ev ρc P.2.2.2.2.2.2.2)) → cT G h0 n0 I.1 d' pc lsc' stc' g' (cn0 I.1) (sn0 I.1) (aQi h0 tyt typs (aGSd sv el (gGJ XG fam AT 0)) I ρe g0)) →
      cT G h0 n0 I.1 d pc lsc stc g (cn0 I.1) (sn0 I.1) (aQi h0 tyt typs (aGSd sv el (gGJ XG fam AT 0)) I ρe g0) := by
    intro ρc g lsc stc d hag hpat hInv hfr hd K
    have hp2 : patR h0 tyt (aGSd sv el (gGJ XG fam AT (psum g a b))) (agl P [(4, a, b, (0, []))] P.2.2.2.2.2.2.2) ρc g lsc stc none := by
      obtain ⟨p1, p2, p3, p4, p5, p6, p7⟩ := hpat
      refine ⟨p1, p2, p3, p4, p5, p6, fun x hx => ?_⟩
      have e := List.mem_singleton.mp hx
      subst e
      show psum g a b = psum g a b + ev ρc (0, [])
      rw [show ev ρc ((0, []) : ae) = 0 from ecst_ev ρc 0]
      omega
    have key := arn_ok (hB (psum g a b)) (I := ago I P pc a b) (P := agl P [(4, a, b, (0, []))] P.2.2.2.2.2.2.2) (M := some P.2.2.2.2.2.2.2) (n0 := n0) (ρe := ρe) (g0 := g0) c4 (xleb v2) hag hp2 hInv hfr hd (aSMi_ok (hB (psum g a b)) (i := 0) (fun c J hc => absurd hc (Nat.not_lt_zero c)) (fun c J hc => absurd hc (Nat.not_lt_zero c)) (fun c J hc => absurd hc (Nat.not_lt_zero c)))
      (fun pc' L P' hL hP' ρ2 g' lsc' stc' d' a1 a2 a3 a4 a5 a6 => by
        have hL : cond (Nat.beq pc pc') (some [agl P [(4, a, b, (-1, []))] (0, []), agl P [(4, a, b, (0, []))] P.2.2.2.2.2.2.2]) none = some L := hL
        obtain ⟨l1, l2⟩ := xcnd hL
        have e1 : pc = pc' := xeqb l1
        subst e1
        have e2 := Option.some.inj l2
        subst e2
        have a6 := a6 _ rfl ρc (aag.rf _ _)
        rcases List.mem_cons.mp hP' with e3 | e3
        · subst e3
          obtain ⟨p1, p2, p3, p4, p5, p6, p7⟩ := a2
          have p7 : psum g' a b = psum g a b + ev ρ2 (-1, []) := p7 _ List.mem_cons_self
          rw [show ev ρ2 ((-1, []) : ae) = -1 from ecst_ev ρ2 (-1)] at p7
          exact (K ρ2 g' lsc' stc' d' a1 ⟨p1, p2, p3, p4, p5, p6, by rw [hgP]; exact fun x hx => absurd hx List.not_mem_nil⟩ a3 a4 a5 (Or.inl (by omega))).mono (fun g2 rv hq => convQ 0 (psum g a b) g2 rv hq)
        · have e3 := List.mem_singleton.mp e3
          subst e3
          obtain ⟨p1, p2, p3, p4, p5, p6, p7⟩ := a2
          have p7 : psum g' a b = psum g a b + ev ρ2 (0, []) := p7 _ List.mem_cons_self
          rw [show ev ρ2 ((0, []) : ae) = 0 from ecst_ev ρ2 0] at p7
          refine (K ρ2 g' lsc' stc' d' a1 ⟨p1, p2, p3, p4, p5, p6, by rw [hgP]; exact fun x hx => absurd hx List.not_mem_nil⟩ a3 a4 a5 (Or.inr ⟨by omega, a6.1, ?_⟩)).mono (fun g2 rv hq => convQ 0 (psum g a b) g2 rv hq)
          rcases a6.2 with q | q
          · exact q
          · exact q.elim)
      (fun m0 em => by have : P.2.2.2.2.2.2.2 = m0 := Option.some.inj em; rw [← this]; exact v3) c3
    exact key.mono (fun g2 rv hq => convQ (psum g a b) 0 g2 rv hq)
  have loop : ∀ (N n : Nat) (ρc : Nat → Int) (g : cg) (lsc : List (Nat × cv)) (stc : List cv) (d : Nat), aag I.2.2.1.2.2.2.2.1.length ρe ρc → patR h0 tyt (aGSd sv el (gGJ XG fam AT 0)) P ρc g lsc stc none → aInv tyt typs g → (∀ k j : Nat, ¬ awc tyt I.2.2.2.2.2 k j → g k j = g0 k j) → I.2.1 ≤ d → psum g a b < (N : Int) → ev ρc P.2.2.2.2.2.2.2 < (n : Int) → cT G h0 n0 I.1 d pc lsc stc g (cn0 I.1) (sn0 I.1) (aQi h0 tyt typs (aGSd sv el (gGJ XG fam AT 0)) I ρe g0) := by
    intro N
    induction N with
    | zero =>
      intro n ρc g lsc stc d h1 h2 h3 h4 h5 h6 h7
      have := psum_0 (g := g) (k := a) b
      omega
    | succ N ihN =>
      intro n
      induction n with
      | zero =>
        intro ρc g lsc stc d h1 h2 h3 h4 h5 h6 h7
        refine one ρc g lsc stc d h1 h2 h3 h4 h5 (fun ρ2 g' lsc' stc' d' a1 a2 a3 a4 a5 a6 => ?_)
        rcases a6 with a6 | ⟨a6, a7, a8⟩
        · exact ihN ((ev ρ2 P.2.2.2.2.2.2.2).toNat + 1) ρ2 g' lsc' stc' d' a1 a2 a3 a4 a5 (by omega) (by omega)
        · omega
      | succ n ihn =>
        intro ρc g lsc stc d h1 h2 h3 h4 h5 h6 h7
        refine one ρc g lsc stc d h1 h2 h3 h4 h5 (fun ρ2 g' lsc' stc' d' a1 a2 a3 a4 a5 a6 => ?_)
        rcases a6 with a6 | ⟨a6, a7, a8⟩
        · exact ihN ((ev ρ2 P.2.2.2.2.2.2.2).toNat + 1) ρ2 g' lsc' stc' d' a1 a2 a3 a4 a5 (by omega) (by omega)
        · exact ihn ρ2 g' lsc' stc' d' a1 a2 a3 a4 a5 (by omega) (by omega)
  refine arn_ok (hB 0) (ρe := ρe) w1 (Nat.le_refl _) (aag.rf _ _) hpat0 hInv0 (fun _ _ _ => rfl) hd0 (aSMi_ok (hB 0) (i := 0) (fun c J hc => absurd hc (Nat.not_lt_zero c)) (fun c J hc => absurd hc (Nat.not_lt_zero c)) (fun c J hc => absurd hc (Nat.not_lt_zero c))) (fun pc' L' P' hL' hP' ρ2 g' lsc' stc' d' a1 a2 a3 a4 a5 a6 => ?_) (fun m0 em => by cases em) c2
  rw [hI] at hL'
  have hL' : cond (Nat.beq pc pc') (some [P]) none = some L' := hL'
  obtain ⟨l1, l2⟩ := xcnd hL'
  have e1 : pc = pc' := xeqb l1
  subst e1
  have e2 := Option.some.inj l2
  subst e2
  have e3 := List.mem_singleton.mp hP'
  subst e3
  exact loop ((psum g' a b).toNat + 1) ((ev ρ2 P'.2.2.2.2.2.2.2).toNat + 1) ρ2 g' lsc' stc' d' a1 a2 a3 a4 a5 (by omega) (by omega)
/-- all instances, one behind another, one of them shown otherwise -/
theorem ains_all2 {GH : Nat → Nat → Nat → Int → cg → Prop} (hB : aBase sv cd mi df el ec eb G h0 cn0 sn0 tyt typs GH HK HS HA HH HW) {f N i0 : Nat} (hc : ∀ i, i < N → i ≠ i0 → achI h0 tyt typs HK HS HA HH HW cd mi ec eb inl fl spl cand INS f i = true) (hs : ∀ J, xg INS i0 = some J → awfI J = true ∧ aInsOK G h0 n0 cn0 sn0 tyt typs (aGSd sv el GH) J) (hz : ∀ c J, c + 1 < N → xg INS c = some J → cn0 J.1 = 0 ∧ sn0 J.1 = 0) : ∀ i, i < N → ∀ I, xg INS i = some I → aInsOK G h0 n0 cn0 sn0 tyt typs (aGSd sv el GH) I := by
  intro i
  induction i using Nat.strongRecOn with
  | _ i ih =>
    intro hi I hI
    by_cases e : i = i0
    · subst e
      exact (hs I hI).2
    · refine ains_ok hB hI (hc i hi e) (fun c J hci hJ => ?_) (fun c J hci hJ => hz c J (by omega) hJ) (fun c J hci hJ => ih c hci (by omega) J hJ)
      by_cases e2 : c = i0
      · subst e2
        exact (hs J hJ).1
      · have := hc c (by omega) e2
        unfold achI at this
        rw [hJ] at this
        exact (xcnb this).1
end Pot
end
section
/-! From a cut of a loop that stands for itself -/
section Cut
variable {sv : Nat → Int32} {cd : xcd} {mi : xmi} {df : xdf} {el ec : Nat → Nat} {eb : Nat → List Nat} {G : xG} {h0 : xheap} {n0 : Nat} {cn0 sn0 : Nat → Nat}
variable {tyt : Lean.RArray (Nat × Nat)} {typs : Lean.RArray (Nat × aty)} {GH : Nat → Nat → Nat → Int → cg → Prop}
variable {HK : aenv → List ae → List am → List gho → Nat → ae → ae → Int × Int → Int × Int} {HS : aenv → List ae → List am → List gho → Nat → ae → ae → av → List gho}
variable {HA : aenv → List ae → List am → List gho → Nat → ae → Nat → ae → ae → ae → ae → List gho} {HH : aenv → List ae → List am → List gho → gho → Bool} {HW : aenv → List ae → List am → List gho → List awr → List gho}
variable {inl : Nat → Bool} {fl : Nat → Nat → Nat} {spl : Nat → Nat → Option (Nat × Nat × Nat × Nat × List Int)} {cand : Nat → List Nat} {INS : Lean.RArray (Nat × ains)}
theorem acut_ok (hB : aBase sv cd mi df el ec eb G h0 cn0 sn0 tyt typs GH HK HS HA HH HW) {f i : Nat} {I : ains} (c1 : awfI I = true) (c3 : ∀ (pc : Nat) (L : List apat) (P : apat), (pc, L) ∈ I.2.2.2.1 → P ∈ L → arnI h0 tyt typs HK HS HA HH HW cd mi ec eb inl fl spl cand INS f i I P (some P.2.2.2.2.2.2.2) pc = true) (hwfI : ∀ c J, c < i → xg INS c = some J → awfI J = true) (hz : ∀ c J, c < i → xg INS c = some J → cn0 J.1 = 0 ∧ sn0 J.1 = 0) (ih : ∀ c J, c < i → xg INS c = some J → aInsOK G h0 n0 cn0 sn0 tyt typs (aGSd sv el GH) J) (ρe : Nat → Int) (g0 : cg) :
    ∀ (n : Nat) (pc : Nat) (L : List apat) (P : apat), acts I.2.2.2.1 pc = some L → P ∈ L → ∀ (ρc : Nat → Int) (g : cg) (lsc : List (Nat × cv)) (stc : List cv) (d : Nat), aag I.2.2.1.2.2.2.2.1.length ρe ρc → patR h0 tyt (aGSd sv el GH) P ρc g lsc stc none → aInv tyt typs g → (∀ k j : Nat, ¬ awc tyt I.2.2.2.2.2 k j → g k j = g0 k j) → I.2.1 ≤ d → ev ρc P.2.2.2.2.2.2.2 < (n : Int) → cT G h0 n0 I.1 d pc lsc stc g (cn0 I.1) (sn0 I.1) (aQi h0 tyt typs (aGSd sv el GH) I ρe g0) := by
  obtain ⟨w1, w⟩ := xcnb c1
  obtain ⟨w2, w3⟩ := xcnb w
  intro n
  induction n with
  | zero =>
    intro pc L P hL hP ρc g lsc stc d hag hp hI' hfr hd' hm
    have wP := List.all_eq_true.mp (List.all_eq_true.mp w3 (pc, L) (acts_mem hL)) P hP
    obtain ⟨v1, wP⟩ := xcnb wP
    obtain ⟨v2, v3⟩ := xcnb wP
    have hrun := c3 pc L P (acts_mem hL) hP
    refine arn_ok hB v1 (xleb v2) hag hp hI' hfr hd' (aSMi_ok hB hwfI hz ih) (fun pc' L' P' hL' hP' ρ2 g' lsc' stc' d' a1 a2 a3 a4 a5 a6 => ?_) (fun m0 em => by have : P.2.2.2.2.2.2.2 = m0 := Option.some.inj em; rw [← this]; exact v3) hrun
    obtain ⟨b1, b2⟩ := a6 _ rfl ρc (aag.rf _ _)
    rcases b2 with b2 | b2
    · omega
    · exact b2.elim
  | succ n ihn =>
    intro pc L P hL hP ρc g lsc stc d hag hp hI' hfr hd' hm
    have wP := List.all_eq_true.mp (List.all_eq_true.mp w3 (pc, L) (acts_mem hL)) P hP
    obtain ⟨v1, wP⟩ := xcnb wP
    obtain ⟨v2, v3⟩ := xcnb wP
    have hrun := c3 pc L P (acts_mem hL) hP
    refine arn_ok hB v1 (xleb v2) hag hp hI' hfr hd' (aSMi_ok hB hwfI hz ih) (fun pc' L' P' hL' hP' ρ2 g' lsc' stc' d' a1 a2 a3 a4 a5 a6 => ?_) (fun m0 em => by have : P.2.2.2.2.2.2.2 = m0 := Option.some.inj em; rw [← this]; exact v3) hrun
    obtain ⟨b1, b2⟩ := a6 _ rfl ρc (aag.rf _ _)
    rcases b2 with b2 | b2
    · exact ihn pc' L' P' hL' hP' ρ2 g' lsc' stc' d' a1 a2 a3 a4 a5 (by omega)
    · exact b2.elim
end Cut
end
