/-! what FITS, on both sides -/
theorem sq_abs (a : Int) : a * a = ((a.natAbs * a.natAbs : Nat) : Int) := by cases a <;> rfl
theorem sqn : ∀ a : Nat, a < 61 → ∀ b : Nat, b < 421 → (a * a ≤ b * b ↔ a ≤ b) := by decide +kernel
theorem w32_sq {a : Int} (h : a.natAbs < 421) : w32 (a * a) = ((a.natAbs * a.natAbs : Nat) : Int) := by
  have : a.natAbs * a.natAbs ≤ 420 * 420 := Nat.mul_le_mul (by omega) (by omega)
  rw [sq_abs, w32_id (by omega) (by omega)]
def FITP (sp x y : Int) (q t Q T : Nat) : Prop := (t = T ∧ q = Q) ∨ (t ≠ T ∧ (x - y).natAbs ≤ (sp * ((t : Int) - (T : Int))).natAbs)
theorem ngs : ∀ k : Nat, k < 2001 → (-i32 ((k : Int) - 1000)).toInt = -((k : Int) - 1000) := by decide +kernel
theorem ng32 {z : Int} (h0 : -1000 ≤ z) (h1 : z ≤ 1000) : (-i32 z).toInt = -z := by
  have := ngs (z + 1000).toNat (by omega)
  rw [show (((z + 1000).toNat : Nat) : Int) - 1000 = z by omega] at this
  exact this
theorem spb {sp e : Int} (h0 : 0 ≤ sp) (h1 : sp ≤ 60) (e0 : -7 ≤ e) (e1 : e ≤ 7) : (sp * e).natAbs < 421 := by
  rw [Int.natAbs_mul]
  have : sp.natAbs * e.natAbs ≤ 60 * 7 := Nat.mul_le_mul (by omega) (by omega)
  omega
section Fit
variable {sv : Nat → Int32} {L : Nat} {n : Nat} {lf : dlf} {g : cg} {o : cg × Option cv} {q t Q T : Nat} {x y sp : Int}
theorem t_fit_ok (rq : q ≤ 4) (rt : t ≤ 7) (rQ : Q ≤ 4) (rT : T ≤ 7) (hx : g 4 q = x) (hy : g 4 Q = y) (hs : g 3 7 = sp) (x0 : 0 ≤ x ∧ x ≤ 60) (y0 : 0 ≤ y ∧ y ≤ 60) (s0 : 0 ≤ sp ∧ sp ≤ 60) (h : zr sv L n 101 0 lf [] g o) (h0 : lf 0 = (4, 3)) (h1 : lf 1 = (0, (q : Int))) (h2 : lf 2 = (0, (t : Int))) (h3 : lf 3 = (0, (Q : Int))) (h4 : lf 4 = (0, (T : Int))) : (FITP sp x y q t Q T ∧ o = (g, some (0, 1))) ∨ (¬ FITP sp x y q t Q T ∧ o = (g, some (0, 0))) := by
  have hh := t_fit rq rt rQ rT hx hy hs h h0 h1 h2 h3 h4
  have e : -(T : Int) + (t : Int) = (t : Int) - (T : Int) := by omega
  have bA := spb (e := (t : Int) - (T : Int)) s0.1 s0.2 (by omega) (by omega)
  rw [e, w32_id (z := sp * ((t : Int) - (T : Int))) (by omega) (by omega), w32_id (z := x - y) (by omega) (by omega), w32_sq bA, w32_sq (a := x - y) (by omega)] at hh
  have hq := sqn (x - y).natAbs (by omega) (sp * ((t : Int) - (T : Int))).natAbs bA
  unfold FITP
  generalize (sp * ((t : Int) - (T : Int))).natAbs = A at hh hq
  generalize (x - y).natAbs = B at hh hq
  generalize A * A = AA at hh hq
  generalize B * B = BB at hh hq
  rcases hh with ⟨z, o1⟩ | ⟨z, o1⟩
  · exact Or.inr ⟨by omega, o1⟩
  · exact Or.inl ⟨by omega, o1⟩
theorem m_fit_ok (rq : q ≤ 4) (rt : t ≤ 7) (rQ : Q ≤ 4) (rT : T ≤ 7) (hx : g 254 (10 + q) = x) (hy : g 254 (10 + Q) = y) (hs : g 254 5 = sp) (x0 : 0 ≤ x ∧ x ≤ 60) (y0 : 0 ≤ y ∧ y ≤ 60) (s0 : 0 ≤ sp ∧ sp ≤ 60) (h : zr sv L n 231 0 lf [] g o) (h0 : lf 0 = (4, 253)) (h1 : lf 1 = (0, (q : Int))) (h2 : lf 2 = (0, (t : Int))) (h3 : lf 3 = (0, (Q : Int))) (h4 : lf 4 = (0, (T : Int))) : (FITP sp x y q t Q T ∧ o = (g, some (0, 1))) ∨ (¬ FITP sp x y q t Q T ∧ o = (g, some (0, 0))) := by
  have hh := m_fit rq rt rQ rT hx hy hs h h0 h1 h2 h3 h4
  have e : -(T : Int) + (t : Int) = (t : Int) - (T : Int) := by omega
  have bA := spb (e := (t : Int) - (T : Int)) s0.1 s0.2 (by omega) (by omega)
  have e2 : sp * -((t : Int) - (T : Int)) = -(sp * ((t : Int) - (T : Int))) := Int.mul_neg _ _
  rw [e, ng32 (z := (t : Int) - (T : Int)) (by omega) (by omega), e2, w32_id (z := sp * ((t : Int) - (T : Int))) (by omega) (by omega), w32_id (z := -(sp * ((t : Int) - (T : Int)))) (by omega) (by omega), w32_id (z := x - y) (by omega) (by omega), ng32 (z := x - y) (by omega) (by omega)] at hh
  have n1 : 0 ≤ (t : Int) - (T : Int) → 0 ≤ sp * ((t : Int) - (T : Int)) := fun q => Int.mul_nonneg s0.1 q
  have n2 : (t : Int) - (T : Int) < 0 → 0 ≤ -(sp * ((t : Int) - (T : Int))) := fun q => by
    rw [← e2]
    exact Int.mul_nonneg s0.1 (by omega)
  unfold FITP
  generalize sp * ((t : Int) - (T : Int)) = A at hh n1 n2 bA
  rcases hh with ⟨z, o1⟩ | ⟨z, o1⟩
  · exact Or.inr ⟨by omega, o1⟩
  · exact Or.inl ⟨by omega, o1⟩
end Fit
