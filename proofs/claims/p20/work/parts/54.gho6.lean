/-! Ghosts: rows that are copies; what is there -/
section Gho6
variable {h0 : xheap} {tyt : Lean.RArray (Nat × Nat)} {fam : Lean.RArray (Nat × afam)} {AT : Nat} {sv : Nat → Int32} {el : Nat → Nat} {π : Int}
/-- the number is copied too -/
noncomputable def gcpn (env : aenv) (fx : List ae) (AT : Nat) (y : gho) (F F2 : afam) : Bool :=
  cond (Nat.beq F.1.2.1 AT) (cond (Nat.beq F2.1.2.1 AT) (cond (Nat.beq (F.1.2.2 + y.2.2.1) (F2.1.2.2 + y.2.1)) (cond (Nat.ble y.2.1 F.1.2.2) (elef env fx 2 (eadd (((F.1.2.2 + 1 : Nat) : Int) + -(y.2.1 : Int), []) y.2.2.2 (-1))) false) false) false) false
noncomputable def gceq (env : aenv) (mem : List am) (F F2 : afam) : Bool := match gnum env mem F.1.1 F.1.2.1 ((F.1.2.2 : Int), []) with
  | none => false
  | some n => match gnum env mem F2.1.1 F2.1.2.1 ((F2.1.2.2 : Int), []) with
    | none => false
    | some n2 => eeq env n n2
noncomputable def gcpA (env : aenv) (mem : List am) (gh : List gho) (F F2 : afam) : Bool := match gnum env mem F.1.1 F.1.2.1 ((F.1.2.2 : Int), []) with
  | none => false
  | some n => cond (gcpa env gh n F.2.1 F2.2.1) (gpr (gcpa env gh n) F.2.2.1 F2.2.2.1) false
noncomputable def gcpB (env : aenv) (fx : List ae) (mem : List am) (AT : Nat) (gh : List gho) (F F2 : afam) : Bool :=
  gh.any (fun y => cond (Nat.beq y.1 2) (cond (gcp1 env fx AT y F.2.1 F2.2.1) (cond (gpr (gcp1 env fx AT y) F.2.2.1 F2.2.2.1) (cond (gcpn env fx AT y F F2) true (gceq env mem F F2)) false) false) false)
noncomputable def gcpy (fam : Lean.RArray (Nat × afam)) (AT : Nat) (env : aenv) (fx : List ae) (mem : List am) (gh : List gho) (F : afam) (f2 : Nat) : Bool :=
  cond (gh.any (fun y => cond (Nat.beq y.1 1) (cond (Nat.beq y.2.1 f2) (Nat.beq y.2.2.1 0) false) false)) (match xg fam f2 with
    | none => false
    | some F2 => cond (grq F.2.2.2 F2.2.2.2) (cond (gcpB env fx mem AT gh F F2) true (cond (gceq env mem F F2) (gcpA env mem gh F F2) false)) false) false
section CopyT
variable {env : aenv} {fx : List ae} {mem : List am} {gh : List gho} {g : cg} {ρ : Nat → Int}
theorem gnumN {GS : gho → (Nat → Int) → cg → Prop} (hC : coR h0 tyt GS env fx mem gh g ρ) {F : afam} {n : ae} (h : gnum env mem F.1.1 F.1.2.1 ((F.1.2.2 : Int), []) = some n) : g F.1.2.1 F.1.2.2 = ev ρ n := by
  obtain ⟨jn, n1, n2, -⟩ := gnum_ok hC h
  rw [evc] at n1
  have : jn = F.1.2.2 := by omega
  rw [this] at n2
  exact n2
theorem gcpn_ok (hC : coR h0 tyt (aGSd sv el (gGH fam AT π)) env fx mem gh g ρ) {y : gho} (hy : y ∈ gh) (hy1 : y.1 = 2) {F F2 : afam} (h : gcpn env fx AT y F F2 = true) : g F.1.2.1 F.1.2.2 = g F2.1.2.1 F2.1.2.2 := by
  obtain ⟨h1, h⟩ := xcnb h
  obtain ⟨h2, h⟩ := xcnb h
  obtain ⟨h4, h⟩ := xcnb h
  obtain ⟨h5, h6⟩ := xcnb h
  have hG := hC.2.2.2 y hy
  obtain ⟨yk, ya, yb, ye⟩ := y
  have hy1 : yk = 2 := hy1
  subst hy1
  have hG : ∀ j : Nat, (j : Int) < ev ρ ye → g AT (ya + j) = g AT (yb + j) := hG
  have h4 : F.1.2.2 + yb = F2.1.2.2 + ya := xeqb h4
  have h5 : ya ≤ F.1.2.2 := xleb h5
  have h6 := elef_ok hC.1 hC.2.1 2 _ h6
  rw [eadd_ev] at h6
  have e0 : ev ρ ((((F.1.2.2 + 1 : Nat) : Int) + -(ya : Int), []) : ae) = ((F.1.2.2 + 1 : Nat) : Int) + -(ya : Int) := ecst_ev ρ _
  have h6 : ev ρ ((((F.1.2.2 + 1 : Nat) : Int) + -(ya : Int), []) : ae) + -1 * ev ρ ye ≤ 0 := h6
  rw [e0] at h6
  rw [xeqb h1, xeqb h2]
  have := hG (F.1.2.2 - ya) (by omega)
  rw [show ya + (F.1.2.2 - ya) = F.1.2.2 by omega, show yb + (F.1.2.2 - ya) = F2.1.2.2 by omega] at this
  exact this
theorem gceq_ok {GS : gho → (Nat → Int) → cg → Prop} (hC : coR h0 tyt GS env fx mem gh g ρ) {F F2 : afam} (h : gceq env mem F F2 = true) : g F.1.2.1 F.1.2.2 = g F2.1.2.1 F2.1.2.2 := by
  unfold gceq at h
  cases hn : gnum env mem F.1.1 F.1.2.1 ((F.1.2.2 : Int), []) with
  | none => rw [hn] at h; cases h
  | some n =>
    rw [hn] at h
    dsimp only at h
    cases hn2 : gnum env mem F2.1.1 F2.1.2.1 ((F2.1.2.2 : Int), []) with
    | none => rw [hn2] at h; cases h
    | some n2 =>
      rw [hn2] at h
      rw [gnumN hC hn, gnumN hC hn2]
      exact eeq_ok hC.1 h
theorem gcpy_ok (hC : coR h0 tyt (aGSd sv el (gGH fam AT π)) env fx mem gh g ρ) {F : afam} {f2 : Nat} (h : gcpy fam AT env fx mem gh F f2 = true) : gRI F 0 g := by
  unfold gcpy at h
  obtain ⟨h1, h⟩ := xcnb h
  obtain ⟨z, hz, h1⟩ := List.any_eq_true.mp h1
  obtain ⟨z1, h1⟩ := xcnb h1
  obtain ⟨z2, z3⟩ := xcnb h1
  have hG := hC.2.2.2 z hz
  obtain ⟨zk, za, zb, ze⟩ := z
  have e1 : zk = 1 := xeqb z1
  have e2 : za = f2 := xeqb z2
  have e3 : zb = 0 := xeqb z3
  subst e1; subst e2; subst e3
  have hG : ∀ F, xg fam za = some F → gRI F 0 g := hG
  cases hF : xg fam za with
  | none => rw [hF] at h; cases h
  | some F2 =>
    rw [hF] at h
    obtain ⟨hq, h⟩ := xcnb h
    have hq := grq_ok hq
    have hR := hG F2 hF
    rcases xcnt h with h | h
    · obtain ⟨y, hy, h⟩ := List.any_eq_true.mp h
      obtain ⟨y1, h⟩ := xcnb h
      obtain ⟨y2, h⟩ := xcnb h
      obtain ⟨y3, h⟩ := xcnb h
      have y1 := xeqb y1
      have hN : g F.1.2.1 F.1.2.2 = g F2.1.2.1 F2.1.2.2 := by
        rcases xcnt h with h | h
        · exact gcpn_ok hC hy y1 h
        · exact gceq_ok hC h
      refine gRI_copy hR hN hq (fun r hr59 hr => ⟨gcp1_ok hC hy y1 y2 hr59, fun i c hc => ?_⟩)
      obtain ⟨c2, p1, p2⟩ := gpr_ok y3 i c hc
      exact ⟨c2, p1, gcp1_ok hC hy y1 p2 hr59⟩
    · obtain ⟨h1, h⟩ := xcnb h
      have hN := gceq_ok hC h1
      unfold gcpA at h
      cases hn : gnum env mem F.1.1 F.1.2.1 ((F.1.2.2 : Int), []) with
      | none => rw [hn] at h; cases h
      | some n =>
        rw [hn] at h
        obtain ⟨y2, y3⟩ := xcnb h
        have en := gnumN hC hn
        refine gRI_copy hR hN hq (fun r hr59 hr => ⟨gcpa_ok hC y2 (by omega), fun i c hc => ?_⟩)
        obtain ⟨c2, p1, p2⟩ := gpr_ok y3 i c hc
        exact ⟨c2, p1, gcpa_ok hC p2 (by omega)⟩
end CopyT
/-- is the ghost there, or does it follow -/
noncomputable def gHH (fam : Lean.RArray (Nat × afam)) (AT : Nat) (srcs : List Nat) (env : aenv) (fx : List ae) (mem : List am) (gh : List gho) (x : gho) : Bool :=
  match x.1 with
  | 1 => cond (gh.any (fun y => cond (Nat.beq y.1 1) (cond (Nat.beq y.2.1 x.2.1) (Nat.beq y.2.2.1 x.2.2.1) false) false)) true
      (cond (Nat.beq x.2.2.1 0) (match xg fam x.2.1 with
        | none => true
        | some F => cond (match gnum env mem F.1.1 F.1.2.1 ((F.1.2.2 : Int), []) with
            | none => false
            | some n => cond (elef env fx 2 n) true (cond (gh.any (fun y => cond (Nat.beq y.1 1) (cond (Nat.beq y.2.1 x.2.1) (Nat.beq y.2.2.1 1) false) false)) (glast env fx mem F n) false)) true (srcs.any (fun f2 => gcpy fam AT env fx mem gh F f2))) false)
  | 2 => cond (elef env fx 2 x.2.2.2) true (gh.any (fun y => cond (Nat.beq y.1 2) (cond (Nat.beq y.2.1 x.2.1) (cond (Nat.beq y.2.2.1 x.2.2.1) (eeq env y.2.2.2 x.2.2.2) false) false) false))
  | 3 => cond (elef env fx 2 x.2.2.2) true (gh.any (fun y => cond (Nat.beq y.1 3) (cond (Nat.beq y.2.1 x.2.1) (cond (Nat.beq y.2.2.1 x.2.2.1) (eeq env y.2.2.2 x.2.2.2) false) false) false))
  | 4 => gh.any (fun y => cond (Nat.beq y.1 4) (cond (Nat.beq y.2.1 x.2.1) (cond (Nat.beq y.2.2.1 x.2.2.1) (eeq env y.2.2.2 x.2.2.2) false) false) false)
  | 50 => gh.any (fun y => cond (Nat.beq y.1 50) (cond (Nat.beq y.2.1 x.2.1) (eeq env y.2.2.2 x.2.2.2) false) false)
  | 51 => gh.any (fun y => cond (Nat.beq y.1 51) (Nat.beq y.2.1 x.2.1) false)
  | _ => false
theorem gHH_ok {srcs : List Nat} : aHH h0 tyt (aGSd sv el (gGH fam AT π)) (gHH fam AT srcs) := by
  intro env fx mem gh x g ρ h hC
  obtain ⟨xk, xa, xb, xe⟩ := x
  unfold gHH at h
  dsimp only at h
  have mem1 : ∀ d : Nat, gh.any (fun y => cond (Nat.beq y.1 1) (cond (Nat.beq y.2.1 xa) (Nat.beq y.2.2.1 d) false) false) = true → ∀ F, xg fam xa = some F → gRI F d g := by
    intro d h
    obtain ⟨z, hz, h1⟩ := List.any_eq_true.mp h
    obtain ⟨z1, h1⟩ := xcnb h1
    obtain ⟨z2, z3⟩ := xcnb h1
    have hG := hC.2.2.2 z hz
    obtain ⟨zk, za, zb, ze⟩ := z
    have e1 : zk = 1 := xeqb z1
    have e2 : za = xa := xeqb z2
    have e3 : zb = d := xeqb z3
    subst e1; subst e2; subst e3
    exact hG
  split at h
  · rcases xcnt h with h | h
    · exact mem1 xb h
    · obtain ⟨h1, h⟩ := xcnb h
      have e : xb = 0 := xeqb h1
      subst e
      show ∀ F, xg fam xa = some F → gRI F 0 g
      intro F hF
      rw [hF] at h
      dsimp only at h
      rcases xcnt h with h | h
      · cases hn : gnum env mem F.1.1 F.1.2.1 ((F.1.2.2 : Int), []) with
        | none => rw [hn] at h; cases h
        | some n =>
          rw [hn] at h
          have en := gnumN hC hn
          rcases xcnt h with h | h
          · have := elef_ok hC.1 hC.2.1 2 _ h
            exact ⟨by omega, fun r hr => absurd hr (by omega)⟩
          · obtain ⟨h2, h3⟩ := xcnb h
            exact glast_ok hC en (mem1 1 h2 F hF) h3
      · obtain ⟨f2, -, h⟩ := List.any_eq_true.mp h
        exact gcpy_ok hC h
  · show ∀ j : Nat, (j : Int) < ev ρ xe → g AT (xa + j) = g AT (xb + j)
    rcases xcnt h with h | h
    · have := elef_ok hC.1 hC.2.1 2 _ h
      intro j hj
      omega
    · obtain ⟨y, hy, h⟩ := List.any_eq_true.mp h
      obtain ⟨y1, h⟩ := xcnb h
      obtain ⟨y2, h⟩ := xcnb h
      obtain ⟨y3, hE⟩ := xcnb h
      have hG := hC.2.2.2 y hy
      obtain ⟨yk, ya, yb, ye⟩ := y
      have e1 : yk = 2 := xeqb y1
      have e2 : ya = xa := xeqb y2
      have e3 : yb = xb := xeqb y3
      subst e1; subst e2; subst e3
      have hG : ∀ j : Nat, (j : Int) < ev ρ ye → g AT (ya + j) = g AT (yb + j) := hG
      have e : ev ρ ye = ev ρ xe := eeq_ok hC.1 hE
      rw [← e]
      exact hG
  · show ∀ j : Nat, (j : Int) < ev ρ xe → g xa j = g xb j
    rcases xcnt h with h | h
    · have := elef_ok hC.1 hC.2.1 2 _ h
      intro j hj
      omega
    · obtain ⟨y, hy, h⟩ := List.any_eq_true.mp h
      obtain ⟨y1, h⟩ := xcnb h
      obtain ⟨y2, h⟩ := xcnb h
      obtain ⟨y3, hE⟩ := xcnb h
      have hG := hC.2.2.2 y hy
      obtain ⟨yk, ya, yb, ye⟩ := y
      have e1 : yk = 3 := xeqb y1
      have e2 : ya = xa := xeqb y2
      have e3 : yb = xb := xeqb y3
      subst e1; subst e2; subst e3
      have hG : ∀ j : Nat, (j : Int) < ev ρ ye → g ya j = g yb j := hG
      have e : ev ρ ye = ev ρ xe := eeq_ok hC.1 hE
      rw [← e]
      exact hG
  · show psum g xa xb = π + ev ρ xe
    obtain ⟨y, hy, h⟩ := List.any_eq_true.mp h
    obtain ⟨y1, h⟩ := xcnb h
    obtain ⟨y2, h⟩ := xcnb h
    obtain ⟨y3, hE⟩ := xcnb h
    have hG := hC.2.2.2 y hy
    obtain ⟨yk, ya, yb, ye⟩ := y
    have e1 : yk = 4 := xeqb y1
    have e2 : ya = xa := xeqb y2
    have e3 : yb = xb := xeqb y3
    subst e1; subst e2; subst e3
    have hG : psum g ya yb = π + ev ρ ye := hG
    have e : ev ρ ye = ev ρ xe := eeq_ok hC.1 hE
    rw [← e]
    exact hG
  · obtain ⟨y, hy, h⟩ := List.any_eq_true.mp h
    obtain ⟨y1, h⟩ := xcnb h
    obtain ⟨y2, hE⟩ := xcnb h
    have hG := hC.2.2.2 y hy
    obtain ⟨yk, ya, yb, ye⟩ := y
    have e1 : yk = 50 := xeqb y1
    have e2 : ya = xa := xeqb y2
    subst e1; subst e2
    have hG : ∃ n : Nat, ev ρ ye = (n : Int) ∧ (sv n).toInt = ρ ya := hG
    have e : ev ρ ye = ev ρ xe := eeq_ok hC.1 hE
    rw [e] at hG
    exact hG
  · obtain ⟨y, hy, h⟩ := List.any_eq_true.mp h
    obtain ⟨y1, y2⟩ := xcnb h
    have hG := hC.2.2.2 y hy
    obtain ⟨yk, ya, yb, ye⟩ := y
    have e1 : yk = 51 := xeqb y1
    have e2 : ya = xa := xeqb y2
    subst e1
    have hG : ρ ya = (el 0 : Int) := hG
    show ρ xa = _
    rw [← e2]
    exact hG
  · cases h
end Gho6
