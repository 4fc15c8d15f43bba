/-! Ghosts: what is there, or follows -/
section Gho5
variable {h0 : xheap} {tyt : Lean.RArray (Nat × Nat)} {fam : Lean.RArray (Nat × afam)} {AT : Nat} {sv : Nat → Int32} {el : Nat → Nat} {π : Int}
/-- the last row is as its kind says -/
noncomputable def glast (env : aenv) (fx : List ae) (mem : List am) (F : afam) (n : ae) : Bool :=
  efrc (eadc n (-1)) (fun r => match gnum env mem F.2.1.1 F.2.1.2.1 (eadc (escl r (F.2.1.2.2.2 : Int)) (F.2.1.2.2.1 : Int)) with
    | none => false
    | some K => match ebd env fx K with
      | none => false
      | some ik => F.2.2.2.all (fun q => cond (zlt ik.2 q.1) true (cond (zlt q.2.1 ik.1) true (match agt F.2.2.1 q.2.2.1 with
        | none => true
        | some col => match gnum env mem col.1 col.2.1 (eadc (escl r (col.2.2.2 : Int)) (col.2.2.1 : Int)) with
          | none => false
          | some w => efit env fx w q.2.2.2.1 q.2.2.2.2))))
theorem glast_ok {GS : gho → (Nat → Int) → cg → Prop} {env : aenv} {fx : List ae} {mem : List am} {gh : List gho} {g : cg} {ρ : Nat → Int} (hC : coR h0 tyt GS env fx mem gh g ρ) {F : afam} {n : ae} (hn : g F.1.2.1 F.1.2.2 = ev ρ n) (hR : gRI F 1 g) (h : glast env fx mem F n = true) : gRI F 0 g := by
  unfold glast at h
  rw [efrc_eq] at h
  cases hK : gnum env mem F.2.1.1 F.2.1.2.1 (eadc (escl (eadc n (-1)) (F.2.1.2.2.2 : Int)) (F.2.1.2.2.1 : Int)) with
  | none => rw [hK] at h; cases h
  | some K =>
    rw [hK] at h
    dsimp only at h
    cases hik : ebd env fx K with
    | none => rw [hik] at h; cases h
    | some ik =>
      rw [hik] at h
      dsimp only at h
      obtain ⟨jk, k1, k2, -⟩ := gnum_ok hC hK
      rw [eadc_ev, escl_ev, eadc_ev] at k1
      have hkv := ebd_ok hC.1 hC.2.1 hik
      refine ⟨hR.1, fun r hr q hq q1 q2 c hc => ?_⟩
      by_cases hlt : (r : Int) < g F.1.2.1 F.1.2.2 - ((1 : Nat) : Int)
      · exact hR.2 r hlt q hq q1 q2 c hc
      · have er : ev ρ n + -1 = (r : Int) := by omega
        rw [er] at k1
        have ejk : jk = F.2.1.2.2.1 + F.2.1.2.2.2 * r := by
          have e2 : ((F.2.1.2.2.2 * r : Nat) : Int) = (F.2.1.2.2.2 : Int) * (r : Int) := Int.natCast_mul _ _
          omega
        rw [← ejk, k2] at q1 q2
        have h := List.all_eq_true.mp h q hq
        rcases xcnt h with h | h
        · have := zlt_iff.mp h; omega
        · rcases xcnt h with h | h
          · have := zlt_iff.mp h; omega
          · rw [hc] at h
            dsimp only at h
            cases hw : gnum env mem c.1 c.2.1 (eadc (escl (eadc n (-1)) (c.2.2.2 : Int)) (c.2.2.1 : Int)) with
            | none => rw [hw] at h; cases h
            | some w =>
              rw [hw] at h
              obtain ⟨jw, w1, w2, -⟩ := gnum_ok hC hw
              rw [eadc_ev, escl_ev, eadc_ev, er] at w1
              have ejw : jw = c.2.2.1 + c.2.2.2 * r := by
                have e2 : ((c.2.2.2 * r : Nat) : Int) = (c.2.2.2 : Int) * (r : Int) := Int.natCast_mul _ _
                omega
              rw [← ejw, w2]
              exact efit_ok hC.1 hC.2.1 h
/-- two families, column by column -/
def gpr (P : afc → afc → Bool) : List afc → List afc → Bool
  | [], [] => true
  | a :: l, b :: m => cond (P a b) (gpr P l m) false
  | _, _ => false
theorem gpr_ok {P : afc → afc → Bool} : ∀ {l m : List afc}, gpr P l m = true → ∀ i a, agt l i = some a → ∃ b, agt m i = some b ∧ P a b = true
  | [], [], _, _, _, h => by cases h
  | [], _ :: _, h, _, _, _ => by cases h
  | _ :: _, [], h, _, _, _ => by cases h
  | a :: l, b :: m, h, 0, x, hx => by
    obtain ⟨h1, h2⟩ := xcnb (show cond (P a b) (gpr P l m) false = true from h)
    have e : a = x := Option.some.inj hx
    exact ⟨b, rfl, by rw [← e]; exact h1⟩
  | a :: l, b :: m, h, i + 1, x, hx => by
    obtain ⟨h1, h2⟩ := xcnb (show cond (P a b) (gpr P l m) false = true from h)
    exact gpr_ok h2 i x hx
def grl (a b : Int × Int × Nat × Int × Int) : Bool := cond (zeq a.1 b.1) (cond (zeq a.2.1 b.2.1) (cond (Nat.beq a.2.2.1 b.2.2.1) (cond (zeq a.2.2.2.1 b.2.2.2.1) (zeq a.2.2.2.2 b.2.2.2.2) false) false) false) false
def grq : List (Int × Int × Nat × Int × Int) → List (Int × Int × Nat × Int × Int) → Bool
  | [], [] => true
  | a :: l, b :: m => cond (grl a b) (grq l m) false
  | _, _ => false
theorem grq_ok : ∀ {l m : List (Int × Int × Nat × Int × Int)}, grq l m = true → l = m
  | [], [], _ => rfl
  | [], _ :: _, h => by cases h
  | _ :: _, [], h => by cases h
  | (a1, a2, a3, a4, a5) :: l, (b1, b2, b3, b4, b5) :: m, h => by
    obtain ⟨h1, h2⟩ := xcnb (show cond (grl (a1, a2, a3, a4, a5) (b1, b2, b3, b4, b5)) (grq l m) false = true from h)
    obtain ⟨c1, h1⟩ := xcnb h1
    obtain ⟨c2, h1⟩ := xcnb h1
    obtain ⟨c3, h1⟩ := xcnb h1
    obtain ⟨c4, c5⟩ := xcnb h1
    have c1 : a1 = b1 := zeq_iff.mp c1
    have c2 : a2 = b2 := zeq_iff.mp c2
    have c3 : a3 = b3 := xeqb c3
    have c4 : a4 = b4 := zeq_iff.mp c4
    have c5 : a5 = b5 := zeq_iff.mp c5
    rw [c1, c2, c3, c4, c5, grq_ok h2]
/-- rows copied, all of them -/
theorem gRI_copy {F F2 : afam} {g : cg} (hR : gRI F2 0 g) (hN : g F.1.2.1 F.1.2.2 = g F2.1.2.1 F2.1.2.2) (hq : F.2.2.2 = F2.2.2.2) (hk : ∀ r : Nat, r ≤ 59 → (r : Int) < g F.1.2.1 F.1.2.2 → g F.2.1.2.1 (F.2.1.2.2.1 + F.2.1.2.2.2 * r) = g F2.2.1.2.1 (F2.2.1.2.2.1 + F2.2.1.2.2.2 * r) ∧ ∀ i c, agt F.2.2.1 i = some c → ∃ c2, agt F2.2.2.1 i = some c2 ∧ g c.2.1 (c.2.2.1 + c.2.2.2 * r) = g c2.2.1 (c2.2.2.1 + c2.2.2.2 * r)) : gRI F 0 g := by
  refine ⟨by rw [hN]; exact hR.1, fun r hr q hq' q1 q2 c hc => ?_⟩
  have h60 := hR.1
  obtain ⟨k1, k2⟩ := hk r (by omega) (by omega)
  rw [k1] at q1 q2
  obtain ⟨c2, c3, c4⟩ := k2 _ c hc
  rw [c4]
  exact hR.2 r (by omega) q (by rw [← hq]; exact hq') q1 q2 c2 c3
noncomputable def gcpa (env : aenv) (gh : List gho) (n : ae) (a b : afc) : Bool :=
  cond (Nat.beq a.2.2.1 0) (cond (Nat.beq b.2.2.1 0) (cond (Nat.beq a.2.2.2 1) (cond (Nat.beq b.2.2.2 1) (gh.any (fun y => cond (Nat.beq y.1 3) (cond (Nat.beq y.2.1 a.2.1) (cond (Nat.beq y.2.2.1 b.2.1) (eeq env y.2.2.2 n) false) false) false)) false) false) false) false
noncomputable def gcp1 (env : aenv) (fx : List ae) (AT : Nat) (y : gho) (a b : afc) : Bool :=
  cond (Nat.beq a.2.1 AT) (cond (Nat.beq b.2.1 AT) (cond (Nat.beq a.2.2.2 b.2.2.2) (cond (Nat.beq (a.2.2.1 + y.2.2.1) (b.2.2.1 + y.2.1)) (cond (Nat.ble y.2.1 a.2.2.1) (elef env fx 2 (eadd (((a.2.2.1 + a.2.2.2 * 59 + 1 : Nat) : Int) + -(y.2.1 : Int), []) y.2.2.2 (-1))) false) false) false) false) false
section CopyS
variable {env : aenv} {fx : List ae} {mem : List am} {gh : List gho} {g : cg} {ρ : Nat → Int}
theorem gcpa_ok (hC : coR h0 tyt (aGSd sv el (gGH fam AT π)) env fx mem gh g ρ) {n : ae} {a b : afc} (h : gcpa env gh n a b = true) {r : Nat} (hr : (r : Int) < ev ρ n) : g a.2.1 (a.2.2.1 + a.2.2.2 * r) = g b.2.1 (b.2.2.1 + b.2.2.2 * r) := by
  obtain ⟨h1, h⟩ := xcnb h
  obtain ⟨h2, h⟩ := xcnb h
  obtain ⟨h3, h⟩ := xcnb h
  obtain ⟨h4, h⟩ := xcnb h
  obtain ⟨y, hy, h⟩ := List.any_eq_true.mp h
  obtain ⟨y1, h⟩ := xcnb h
  obtain ⟨y2, h⟩ := xcnb h
  obtain ⟨y3, h⟩ := xcnb h
  have hG := hC.2.2.2 y hy
  obtain ⟨yk, ya, yb, ye⟩ := y
  have y1 : yk = 3 := xeqb y1
  subst y1
  have hG : ∀ j : Nat, (j : Int) < ev ρ ye → g ya j = g yb j := hG
  have y2 : ya = a.2.1 := xeqb y2
  have y3 : yb = b.2.1 := xeqb y3
  have e := eeq_ok hC.1 h
  rw [xeqb h1, xeqb h2, xeqb h3, xeqb h4, ← y2, ← y3, Nat.zero_add, Nat.one_mul]
  exact hG r (by have e : ev ρ ye = ev ρ n := e; omega)
theorem gcp1_ok (hC : coR h0 tyt (aGSd sv el (gGH fam AT π)) env fx mem gh g ρ) {y : gho} (hy : y ∈ gh) (hy1 : y.1 = 2) {a b : afc} (h : gcp1 env fx AT y a b = true) {r : Nat} (hr : r ≤ 59) : g a.2.1 (a.2.2.1 + a.2.2.2 * r) = g b.2.1 (b.2.2.1 + b.2.2.2 * r) := by
  obtain ⟨h1, h⟩ := xcnb h
  obtain ⟨h2, h⟩ := xcnb h
  obtain ⟨h3, h⟩ := xcnb h
  obtain ⟨h4, h⟩ := xcnb h
  obtain ⟨h5, h6⟩ := xcnb h
  have hG := hC.2.2.2 y hy
  obtain ⟨yk, ya, yb, ye⟩ := y
  have hy1 : yk = 2 := hy1
  subst hy1
  have hG : ∀ j : Nat, (j : Int) < ev ρ ye → g AT (ya + j) = g AT (yb + j) := hG
  have h4 : a.2.2.1 + yb = b.2.2.1 + ya := xeqb h4
  have h5 : ya ≤ a.2.2.1 := xleb h5
  have h6 := elef_ok hC.1 hC.2.1 2 _ h6
  rw [eadd_ev] at h6
  have e0 : ev ρ ((((a.2.2.1 + a.2.2.2 * 59 + 1 : Nat) : Int) + -(ya : Int), []) : ae) = ((a.2.2.1 + a.2.2.2 * 59 + 1 : Nat) : Int) + -(ya : Int) := ecst_ev ρ _
  have h6 : ev ρ ((((a.2.2.1 + a.2.2.2 * 59 + 1 : Nat) : Int) + -(ya : Int), []) : ae) + -1 * ev ρ ye ≤ 0 := h6
  rw [e0] at h6
  have hm := Nat.mul_le_mul_left a.2.2.2 hr
  rw [xeqb h1, xeqb h2, ← xeqb h3]
  have := hG (a.2.2.1 + a.2.2.2 * r - ya) (by omega)
  rw [show ya + (a.2.2.1 + a.2.2.2 * r - ya) = a.2.2.1 + a.2.2.2 * r by omega, show yb + (a.2.2.1 + a.2.2.2 * r - ya) = b.2.2.1 + a.2.2.2 * r by omega] at this
  exact this
end CopyS
end Gho5
