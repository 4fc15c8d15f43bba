/-! Ghosts: a call's writes, copies of arrays -/
section Gho4
variable {h0 : xheap} {tyt : Lean.RArray (Nat × Nat)} {fam : Lean.RArray (Nat × afam)} {tAT AT : Nat} {sv : Nat → Int32} {el : Nat → Nat} {π : Int}
/-- the write meets none of the places lo to hi of the cell -/
def gwc (w : awr) (t k : Nat) (lo hi : Int) : Bool := cond (Nat.beq w.1 t) (cond (match w.2.1 with
    | none => false
    | some c => !(Nat.beq c k)) true (cond (zlt hi w.2.2.1) true (cond (zle 2147483648 w.2.2.2) false (zlt w.2.2.2 lo)))) true
theorem gwc_ok {wr : List awr} {t k : Nat} {lo hi : Int} (ht : xg tyt k = some t) (h : wr.all (fun w => gwc w t k lo hi) = true) {j : Nat} (h1 : lo ≤ (j : Int)) (h2 : (j : Int) ≤ hi) : ¬ awc tyt wr k j := by
  intro ⟨w, hw, c1, c2, c3, c4⟩
  have h := List.all_eq_true.mp h w hw
  unfold gwc at h
  have e : w.1 = t := Option.some.inj (c1.symm.trans ht)
  rw [xnb1 e] at h
  simp only [cond_true] at h
  rcases xcnt h with h | h
  · split at h
    · cases h
    · rename_i c hc
      rw [xnb1 (c2 c hc).symm] at h
      cases h
  · rcases xcnt h with h | h
    · have := zlt_iff.mp h; omega
    · cases hb : zle 2147483648 w.2.2.2 with
      | true => rw [hb] at h; cases h
      | false =>
        rw [hb] at h
        have h := zlt_iff.mp (show zlt w.2.2.2 lo = true from h)
        have := zle_f hb
        rcases c4 with c4 | c4 <;> omega
noncomputable def ghw1 (fam : Lean.RArray (Nat × afam)) (tyt : Lean.RArray (Nat × Nat)) (tAT AT : Nat) (env : aenv) (wr : List awr) (x : gho) : Bool :=
  match x.1 with
  | 1 => (match xg fam x.2.1 with
    | none => false
    | some F => cond (wr.all (fun w => gwc w F.1.1 F.1.2.1 (F.1.2.2 : Int) (F.1.2.2 : Int))) (cond (wr.all (fun w => gwc w F.2.1.1 F.2.1.2.1 (F.2.1.2.2.1 : Int) ((F.2.1.2.2.1 + F.2.1.2.2.2 * 59 : Nat) : Int))) (F.2.2.1.all (fun col => wr.all (fun w => gwc w col.1 col.2.1 (col.2.2.1 : Int) ((col.2.2.1 + col.2.2.2 * 59 : Nat) : Int)))) false) false)
  | 2 => (match eu env x.2.2.2 with
    | none => false
    | some u => cond (wr.all (fun w => gwc w tAT AT (x.2.1 : Int) (Int.add (x.2.1 : Int) u))) (wr.all (fun w => gwc w tAT AT (x.2.2.1 : Int) (Int.add (x.2.2.1 : Int) u))) false)
  | 3 => (match xg tyt x.2.1 with
    | none => false
    | some ta => match xg tyt x.2.2.1 with
      | none => false
      | some tb => match eu env x.2.2.2 with
        | none => false
        | some u => cond (wr.all (fun w => gwc w ta x.2.1 0 u)) (wr.all (fun w => gwc w tb x.2.2.1 0 u)) false)
  | 4 => (match xg tyt x.2.1 with
    | none => false
    | some ta => wr.all (fun w => gwc w ta x.2.1 0 (x.2.2.1 : Int)))
  | 50 => true
  | 51 => true
  | _ => false
noncomputable def gHW (fam : Lean.RArray (Nat × afam)) (tyt : Lean.RArray (Nat × Nat)) (tAT AT : Nat) (env : aenv) (_fx : List ae) (_mem : List am) (gh : List gho) (wr : List awr) : List gho := gh.filter (ghw1 fam tyt tAT AT env wr)
theorem gHW_ok (hT : gfT tyt fam) (hAT2 : xg tyt AT = some tAT) : aHW h0 tyt (aGSd sv el (gGH fam AT π)) (gHW fam tyt tAT AT) := by
  intro env fx mem gh wr g g' ρ hC hg x hx
  obtain ⟨hx0, h⟩ := List.mem_filter.mp hx
  have hG := hC.2.2.2 x hx0
  obtain ⟨xk, xa, xb, xe⟩ := x
  unfold ghw1 at h
  dsimp only at h
  split at h
  · have hG : ∀ F, xg fam xa = some F → gRI F xb g := hG
    cases hF : xg fam xa with
    | none => rw [hF] at h; cases h
    | some F =>
      rw [hF] at h
      obtain ⟨h1, h⟩ := xcnb h
      obtain ⟨h2, h3⟩ := xcnb h
      obtain ⟨t1, t2, t3⟩ := hT xa F hF
      have hR := hG F hF
      intro F' hF'
      have e2 : F' = F := Option.some.inj (hF'.symm.trans hF)
      subst e2
      refine gRI_keep hR (hg _ _ (gwc_ok t1 h1 (Int.le_refl _) (Int.le_refl _))) (fun r hr => ?_)
      have hN := hR.1
      have hr59 : r ≤ 59 := by omega
      refine ⟨hg _ _ (gwc_ok t2 h2 ?_ ?_), fun col hcol => hg _ _ (gwc_ok (t3 col hcol) (List.all_eq_true.mp h3 col hcol) ?_ ?_)⟩
      · omega
      · have := Nat.mul_le_mul_left F'.2.1.2.2.2 hr59; omega
      · omega
      · have := Nat.mul_le_mul_left col.2.2.2 hr59; omega
  · have hG : ∀ j : Nat, (j : Int) < ev ρ xe → g AT (xa + j) = g AT (xb + j) := hG
    cases hE : eu env xe with
    | none => rw [hE] at h; cases h
    | some u =>
      rw [hE] at h
      obtain ⟨h1, h2⟩ := xcnb h
      have b3 := eu_ok hC.1 hE
      show ∀ j : Nat, (j : Int) < ev ρ xe → g' AT (xa + j) = g' AT (xb + j)
      intro j hj
      rw [hg _ _ (gwc_ok hAT2 h1 (by omega) (by show _ ≤ (xa : Int) + u; omega)), hg _ _ (gwc_ok hAT2 h2 (by omega) (by show _ ≤ (xb : Int) + u; omega))]
      exact hG j hj
  · have hG : ∀ j : Nat, (j : Int) < ev ρ xe → g xa j = g xb j := hG
    cases ha : xg tyt xa with
    | none => rw [ha] at h; cases h
    | some ta =>
      rw [ha] at h
      dsimp only at h
      cases hb : xg tyt xb with
      | none => rw [hb] at h; cases h
      | some tb =>
        rw [hb] at h
        dsimp only at h
        cases hE : eu env xe with
        | none => rw [hE] at h; cases h
        | some u =>
          rw [hE] at h
          obtain ⟨h1, h2⟩ := xcnb h
          have b3 := eu_ok hC.1 hE
          show ∀ j : Nat, (j : Int) < ev ρ xe → g' xa j = g' xb j
          intro j hj
          rw [hg _ _ (gwc_ok ha h1 (by omega) (by omega)), hg _ _ (gwc_ok hb h2 (by omega) (by omega))]
          exact hG j hj
  · have hG : psum g xa xb = π + ev ρ xe := hG
    cases ha : xg tyt xa with
    | none => rw [ha] at h; cases h
    | some ta =>
      rw [ha] at h
      show psum g' xa xb = π + ev ρ xe
      rw [← hG]
      exact psum_cg (fun j hj => hg _ _ (gwc_ok ha h (by omega) (by omega)))
  · exact hG
  · exact hG
  · cases h
/-- a copy into another cell -/
noncomputable def gha1 (fam : Lean.RArray (Nat × afam)) (AT : Nat) (env : aenv) (cb : ae) (x : gho) : Bool :=
  match x.1 with
  | 1 => (match xg fam x.2.1 with
    | none => false
    | some F => cond (ene env cb ((F.1.2.1 : Int), [])) (cond (ene env cb ((F.2.1.2.1 : Int), [])) (F.2.2.1.all (fun col => ene env cb ((col.2.1 : Int), []))) false) false)
  | 2 => ene env cb ((AT : Int), [])
  | 3 => cond (ene env cb ((x.2.1 : Int), [])) (ene env cb ((x.2.2.1 : Int), [])) false
  | 4 => ene env cb ((x.2.1 : Int), [])
  | 50 => true
  | 51 => true
  | _ => false
noncomputable def gHA (fam : Lean.RArray (Nat × afam)) (AT : Nat) (env : aenv) (_fx : List ae) (_mem : List am) (gh : List gho) (_ta : Nat) (ca : ae) (_tb : Nat) (cb sp dp m : ae) : List gho :=
  gh.filter (gha1 fam AT env cb) ++ (match (enor env ca).2, (enor env cb).2, (enor env sp).2, (enor env dp).2 with
    | [], [], [], [] => cond (cond (zeq (enor env sp).1 0) (zeq (enor env dp).1 0) false) [(3, (enor env cb).1.toNat, (enor env ca).1.toNat, m)] []
    | _, _, _, _ => [])
theorem enor_c {env : aenv} {ρ : Nat → Int} (hE : envR env ρ) {e : ae} (h : (enor env e).2 = []) : ev ρ e = (enor env e).1 := by
  rw [← enor_ok hE e]
  unfold ev
  rw [h]
  show _ + 0 = _
  omega
theorem gHA_ok : aHA h0 tyt (aGSd sv el (gGH fam AT π)) (gHA fam AT) := by
  intro env fx mem gh g ρ ta ca tb cb sp dp m ka kb s d n hC hca hcb hta htb hsp hdp hm x hx
  have ne : ∀ (k' j' : Nat), k' ≠ kb → ccp g ka kb s d n k' j' = g k' j' := fun k' j' hk => by unfold ccp; rw [if_neg (fun z => hk z.1)]
  have nk : ∀ q : Nat, ene env cb ((q : Int), []) = true → q ≠ kb := fun q hq => by
    have := ene_ok hC.1 hq
    rw [hcb, evc] at this
    intro e
    exact this (by omega)
  rcases List.mem_append.mp hx with hx | hx
  · obtain ⟨hx0, h⟩ := List.mem_filter.mp hx
    have hG := hC.2.2.2 x hx0
    obtain ⟨xk, xa, xb, xe⟩ := x
    unfold gha1 at h
    dsimp only at h
    split at h
    · have hG : ∀ F, xg fam xa = some F → gRI F xb g := hG
      cases hF : xg fam xa with
      | none => rw [hF] at h; cases h
      | some F =>
        rw [hF] at h
        obtain ⟨h1, h⟩ := xcnb h
        obtain ⟨h2, h3⟩ := xcnb h
        intro F' hF'
        have e2 : F' = F := Option.some.inj (hF'.symm.trans hF)
        subst e2
        exact gRI_keep (hG F' hF) (ne _ _ (nk _ h1)) (fun r hr => ⟨ne _ _ (nk _ h2), fun col hcol => ne _ _ (nk _ (List.all_eq_true.mp h3 col hcol))⟩)
    · have hG : ∀ j : Nat, (j : Int) < ev ρ xe → g AT (xa + j) = g AT (xb + j) := hG
      show ∀ j : Nat, (j : Int) < ev ρ xe → ccp g ka kb s d n AT (xa + j) = ccp g ka kb s d n AT (xb + j)
      intro j hj
      rw [ne _ _ (nk _ h), ne _ _ (nk _ h)]
      exact hG j hj
    · have hG : ∀ j : Nat, (j : Int) < ev ρ xe → g xa j = g xb j := hG
      obtain ⟨h1, h2⟩ := xcnb h
      show ∀ j : Nat, (j : Int) < ev ρ xe → ccp g ka kb s d n xa j = ccp g ka kb s d n xb j
      intro j hj
      rw [ne _ _ (nk _ h1), ne _ _ (nk _ h2)]
      exact hG j hj
    · have hG : psum g xa xb = π + ev ρ xe := hG
      show psum (ccp g ka kb s d n) xa xb = π + ev ρ xe
      rw [← hG]
      exact psum_cg (fun j hj => ne _ _ (nk _ h))
    · exact hG
    · exact hG
    · cases h
  · split at hx
    · rename_i c1 c2 c3 c4
      cases hb : cond (zeq (enor env sp).1 0) (zeq (enor env dp).1 0) false with
      | false => rw [hb] at hx; exact absurd hx List.not_mem_nil
      | true =>
        rw [hb] at hx
        obtain ⟨z1, z2⟩ := xcnb hb
        have z1 := zeq_iff.mp z1
        have z2 := zeq_iff.mp z2
        have e := List.mem_singleton.mp hx
        subst e
        have f1 := enor_c hC.1 c1
        have f2 := enor_c hC.1 c2
        have f3 := enor_c hC.1 c3
        have f4 := enor_c hC.1 c4
        have es : s = 0 := by omega
        have ed : d = 0 := by omega
        subst es; subst ed
        have ea : (enor env ca).1.toNat = ka := by omega
        have eb' : (enor env cb).1.toNat = kb := by omega
        show ∀ j : Nat, (j : Int) < ev ρ m → ccp g ka kb 0 0 n (enor env cb).1.toNat j = ccp g ka kb 0 0 n (enor env ca).1.toNat j
        intro j hj
        rw [ea, eb']
        have hj2 : j < n := by omega
        by_cases hk : ka = kb
        · rw [hk]
        · rw [ne _ _ hk]
          unfold ccp
          rw [if_pos ⟨rfl, Nat.zero_le _, by omega⟩]
          congr 1
          omega
    · exact absurd hx List.not_mem_nil
end Gho4
