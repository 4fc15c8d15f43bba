/-! The checker's values: intervals and types.
A value is a tag and two numbers. 0: an int, 2^63 added, from a to b; 1: a long, likewise; 2: a cell of ours of type a; 3: the cell a that was there before; 4: null; 5: null or any reference. -/
abbrev yv : Type := Nat × Nat × Nat
/-- 0 int, 1 long, 2 reference, 3 null, 4 either -/
def ykd : Nat → Nat
  | 0 => 0
  | 1 => 1
  | 2 => 2
  | 3 => 2
  | 4 => 3
  | 5 => 4
  | _ => 9
section YDen
variable (ty : Nat → Nat) (ex : Nat → Nat)
def yden (as : List Nat) (w : yv) (v : Value) : Prop :=
  match w.1 with
  | 0 => ∃ x : Int32, v = .int x ∧ w.2.1 ≤ xoff x.toInt ∧ xoff x.toInt ≤ w.2.2
  | 1 => ∃ x : Int64, v = .long x ∧ w.2.1 ≤ xoff x.toInt ∧ xoff x.toInt ≤ w.2.2
  | 2 => ∃ k a : Nat, as[k]? = some a ∧ ty k = w.2.1 ∧ v = .ref a
  | 3 => v = .ref (ex w.2.1)
  | 4 => v = .null
  | 5 => v = .null ∨ ∃ a, v = .ref a
  | _ => False
/-- one value's set within another's -/
def yle (a b : yv) : Bool :=
  match b.1 with
  | 0 => Nat.beq a.1 0 && (Nat.ble b.2.1 a.2.1 && Nat.ble a.2.2 b.2.2)
  | 1 => Nat.beq a.1 1 && (Nat.ble b.2.1 a.2.1 && Nat.ble a.2.2 b.2.2)
  | 2 => Nat.beq a.1 2 && Nat.beq a.2.1 b.2.1
  | 3 => Nat.beq a.1 3 && Nat.beq a.2.1 b.2.1
  | 4 => Nat.beq a.1 4
  | 5 => Nat.beq (ykd a.1) 2 || (Nat.beq a.1 4 || Nat.beq a.1 5)
  | _ => false
variable {ty : Nat → Nat} {ex : Nat → Nat}
theorem yden.int {as : List Nat} {w : yv} {v : Value} (h : yden ty ex as w v) (hw : w.1 = 0) : ∃ x : Int32, v = .int x ∧ w.2.1 ≤ xoff x.toInt ∧ xoff x.toInt ≤ w.2.2 := by
  obtain ⟨t, a, b⟩ := w
  have e : t = 0 := hw
  subst e; exact h
theorem yden.long {as : List Nat} {w : yv} {v : Value} (h : yden ty ex as w v) (hw : w.1 = 1) : ∃ x : Int64, v = .long x ∧ w.2.1 ≤ xoff x.toInt ∧ xoff x.toInt ≤ w.2.2 := by
  obtain ⟨t, a, b⟩ := w
  have e : t = 1 := hw
  subst e; exact h
theorem yden.own {as : List Nat} {w : yv} {v : Value} (h : yden ty ex as w v) (hw : w.1 = 2) : ∃ k a : Nat, as[k]? = some a ∧ ty k = w.2.1 ∧ v = .ref a := by
  obtain ⟨t, a, b⟩ := w
  have e : t = 2 := hw
  subst e; exact h
theorem yden.ext {as : List Nat} {w : yv} {v : Value} (h : yden ty ex as w v) (hw : w.1 = 3) : v = .ref (ex w.2.1) := by
  obtain ⟨t, a, b⟩ := w
  have e : t = 3 := hw
  subst e; exact h
theorem yden.nul {as : List Nat} {w : yv} {v : Value} (h : yden ty ex as w v) (hw : w.1 = 4) : v = .null := by
  obtain ⟨t, a, b⟩ := w
  have e : t = 4 := hw
  subst e; exact h
theorem yden.ref {as : List Nat} : ∀ {w : yv} {v : Value}, yden ty ex as w v → ykd w.1 = 2 → ∃ a, v = .ref a
  | (0, _, _), _, _, k => by cases k
  | (1, _, _), _, _, k => by cases k
  | (2, a, b), v, h, _ => by
    obtain ⟨k, q, h1, h2, h3⟩ : ∃ k q : Nat, as[k]? = some q ∧ ty k = a ∧ v = .ref q := h
    exact ⟨q, h3⟩
  | (3, a, b), v, h, _ => ⟨_, h⟩
  | (4, _, _), _, _, k => by cases k
  | (5, _, _), _, _, k => by cases k
  | (_ + 6, _, _), _, h, _ => h.elim
theorem yden.cat {as : List Nat} : ∀ {w : yv} {v : Value}, yden ty ex as w v → v.category = cond (Nat.beq w.1 1) 2 1
  | (0, a, b), v, h => by
    obtain ⟨x, h1, h2⟩ : ∃ x : Int32, v = .int x ∧ a ≤ xoff x.toInt ∧ xoff x.toInt ≤ b := h
    rw [h1]; rfl
  | (1, a, b), v, h => by
    obtain ⟨x, h1, h2⟩ : ∃ x : Int64, v = .long x ∧ a ≤ xoff x.toInt ∧ xoff x.toInt ≤ b := h
    rw [h1]; rfl
  | (2, a, b), v, h => by
    obtain ⟨k, q, h1, h2, h3⟩ : ∃ k q : Nat, as[k]? = some q ∧ ty k = a ∧ v = .ref q := h
    rw [h3]; rfl
  | (3, a, b), v, h => by rw [show v = .ref (ex a) from h]; rfl
  | (4, a, b), v, h => by rw [show v = .null from h]; rfl
  | (5, a, b), v, h => by
    rcases (show v = .null ∨ ∃ q, v = .ref q from h) with h | ⟨q, h⟩ <;> rw [h] <;> rfl
  | (_ + 6, _, _), _, h => h.elim
theorem yle_ok {as : List Nat} : ∀ {a b : yv} {v : Value}, yle a b = true → yden ty ex as a v → yden ty ex as b v
  | (t, a1, a2), (0, b1, b2), v, h, hv => by
    obtain ⟨h1, h2⟩ := xand (show (Nat.beq t 0 && (Nat.ble b1 a1 && Nat.ble a2 b2)) = true from h)
    obtain ⟨h3, h4⟩ := xand h2
    obtain ⟨x, e1, e2, e3⟩ := yden.int hv (xeqb h1)
    exact ⟨x, e1, Nat.le_trans (xleb h3) e2, Nat.le_trans e3 (xleb h4)⟩
  | (t, a1, a2), (1, b1, b2), v, h, hv => by
    obtain ⟨h1, h2⟩ := xand (show (Nat.beq t 1 && (Nat.ble b1 a1 && Nat.ble a2 b2)) = true from h)
    obtain ⟨h3, h4⟩ := xand h2
    obtain ⟨x, e1, e2, e3⟩ := yden.long hv (xeqb h1)
    exact ⟨x, e1, Nat.le_trans (xleb h3) e2, Nat.le_trans e3 (xleb h4)⟩
  | (t, a1, a2), (2, b1, b2), v, h, hv => by
    obtain ⟨h1, h2⟩ := xand (show (Nat.beq t 2 && Nat.beq a1 b1) = true from h)
    obtain ⟨k, q, e1, e2, e3⟩ := yden.own hv (xeqb h1)
    exact ⟨k, q, e1, e2.trans (xeqb h2), e3⟩
  | (t, a1, a2), (3, b1, b2), v, h, hv => by
    obtain ⟨h1, h2⟩ := xand (show (Nat.beq t 3 && Nat.beq a1 b1) = true from h)
    have e := yden.ext hv (xeqb h1)
    have e2 : a1 = b1 := xeqb h2
    show v = .ref (ex b1)
    rw [← e2]; exact e
  | (t, a1, a2), (4, b1, b2), v, h, hv => yden.nul hv (xeqb (show Nat.beq t 4 = true from h))
  | (t, a1, a2), (5, b1, b2), v, h, hv => by
    show v = .null ∨ ∃ a, v = .ref a
    rcases xor2 (show (Nat.beq (ykd t) 2 || (Nat.beq t 4 || Nat.beq t 5)) = true from h) with h | h
    · exact Or.inr (yden.ref hv (xeqb h))
    · rcases xor2 h with h | h
      · exact Or.inl (yden.nul hv (xeqb h))
      · have e : t = 5 := xeqb h
        subst e; exact hv
  | (t, a1, a2), (_ + 6, b1, b2), v, h, hv => by cases h
end YDen
/-- what two values have in common: of numbers the overlap; else the first -/
def ymt (a b : yv) : yv := cond (Nat.ble a.1 1 && Nat.beq a.1 b.1) (a.1, Nat.max a.2.1 b.2.1, Nat.min a.2.2 b.2.2) a
def yemp (a : yv) : Bool := Nat.ble a.1 1 && Nat.blt a.2.2 a.2.1
theorem ymt_ok {ty : Nat → Nat} {ex : Nat → Nat} {as : List Nat} {a b : yv} {v : Value} (ha : yden ty ex as a v) (hb : yden ty ex as b v) : yden ty ex as (ymt a b) v := by
  unfold ymt
  cases hc : (Nat.ble a.1 1 && Nat.beq a.1 b.1) with
  | false => exact ha
  | true =>
    obtain ⟨h1, h2⟩ := xand hc
    have h3 := xleb h1
    have h4 := xeqb h2
    obtain ⟨t, a1, a2⟩ := a
    obtain ⟨t', b1, b2⟩ := b
    dsimp only at h3 h4
    subst h4
    have h5 : t = 0 ∨ t = 1 := by omega
    rcases h5 with rfl | rfl
    · obtain ⟨x, e1, e2, e3⟩ := yden.int ha rfl
      obtain ⟨x', e1', e2', e3'⟩ := yden.int hb rfl
      have e : x' = x := by rw [e1] at e1'; exact (Value.int.inj e1').symm
      subst e
      dsimp only at e2 e3 e2' e3'
      exact ⟨x', e1, Nat.max_le.mpr ⟨e2, e2'⟩, Nat.le_min.mpr ⟨e3, e3'⟩⟩
    · obtain ⟨x, e1, e2, e3⟩ := yden.long ha rfl
      obtain ⟨x', e1', e2', e3'⟩ := yden.long hb rfl
      have e : x' = x := by rw [e1] at e1'; exact (Value.long.inj e1').symm
      subst e
      dsimp only at e2 e3 e2' e3'
      exact ⟨x', e1, Nat.max_le.mpr ⟨e2, e2'⟩, Nat.le_min.mpr ⟨e3, e3'⟩⟩
theorem yemp_no {ty : Nat → Nat} {ex : Nat → Nat} {as : List Nat} {a : yv} {v : Value} (ha : yden ty ex as a v) : yemp a = false := by
  cases hc : yemp a with
  | false => rfl
  | true =>
    exfalso
    obtain ⟨h1, h2⟩ := xand hc
    have h3 := xleb h1
    have h4 := xltb h2
    obtain ⟨t, a1, a2⟩ := a
    dsimp only at h3 h4
    have h5 : t = 0 ∨ t = 1 := by omega
    rcases h5 with rfl | rfl
    · obtain ⟨x, e1, e2, e3⟩ := yden.int ha rfl
      dsimp only at e2 e3; omega
    · obtain ⟨x, e1, e2, e3⟩ := yden.long ha rfl
      dsimp only at e2 e3; omega
