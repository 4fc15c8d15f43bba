/-! ride, road -/
theorem csgn_l {z : Int} : csgn z < 0 ↔ z < 0 := by
  unfold csgn
  split
  · omega
  · split <;> omega
theorem csgn_g {z : Int} : 0 < csgn z ↔ 0 < z := by
  unfold csgn
  split
  · omega
  · split <;> omega
theorem qdi_p : ∀ a : Nat, a < 128 → ∀ b : Nat, b < 64 → qdi (a : Int) (b : Int) ≠ -1 := by decide +kernel
theorem neg32 {z : Int} (h0 : -1000 ≤ z) (h1 : z ≤ 1000) : (-i32 z).toInt = -z := by
  have e : ∀ k : Nat, k < 2001 → (-i32 ((k : Int) - 1000)).toInt = -((k : Int) - 1000) := by decide +kernel
  have := e (z + 1000).toNat (by omega)
  rw [show (((z + 1000).toNat : Nat) : Int) - 1000 = z by omega] at this
  exact this
section Rid
variable {sv : Nat → Int32} {L : Nat}
theorem RC.spd {c g : cg} (h : RC 3 0 0 c) (H : ∀ k j : Nat, ¬ (k = 0 ∧ j = 0) → ¬ (k = 253 ∧ j = 2) → ¬ (k = 3 ∧ j = 7) → ¬ (k = 254 ∧ j = 5) → g k j = c k j) (hx : g 3 7 = g 254 5) : RC 3 0 0 g := by
  obtain ⟨np, nq, ⟨h5, h6⟩, ⟨a1, a2, a3, a4⟩, a5, a6, a7, -⟩ := h
  have K : ∀ k j : Nat, ¬ (k = 0 ∧ j = 0) → ¬ (k = 253 ∧ j = 2) → ¬ (k = 3 ∧ j = 7) → ¬ (k = 254 ∧ j = 5) → g k j = c k j := H
  refine ⟨np, nq, ⟨h5, h6⟩, ⟨?_, ?_, ?_, ?_⟩, fun i hi => ?_, fun i hi => ?_, fun i hi => ?_, hx⟩
  · rw [K _ _ (by omega) (by omega) (by omega) (by omega)]; exact a1
  · rw [K _ _ (by omega) (by omega) (by omega) (by omega)]; exact a2
  · rw [K _ _ (by omega) (by omega) (by omega) (by omega)]; exact a3
  · rw [K _ _ (by omega) (by omega) (by omega) (by omega)]; exact a4
  · rw [K _ _ (by omega) (by omega) (by omega) (by omega), K _ _ (by omega) (by omega) (by omega) (by omega)]; exact a5 i hi
  · rw [K _ _ (by omega) (by omega) (by omega) (by omega), K _ _ (by omega) (by omega) (by omega) (by omega)]; exact a6 i hi
  · rw [K _ _ (by omega) (by omega) (by omega) (by omega), K _ _ (by omega) (by omega) (by omega) (by omega)]; exact a7 i hi
theorem tt_ride : TT sv L 313 := by
  intro c g g' al r r' n n' lf lf' hP _ har _ h0 hl h h0' hl' h'
  obtain ⟨hR, -, -, hf, hf', -⟩ := hP
  obtain ⟨a, rfl⟩ := al1 har
  have h := t_ride h h0 hl.1
  have h' := m_ride h' h0' hl'.1
  have l0 := csgn_l (z := a - 0)
  have g6 := csgn_g (z := a - 60)
  have G : ∀ k j : Nat, 253 ≤ k → k < 270 → g k j = c k j := fun k j e1 e2 => by rw [hf k e1 e2]
  rcases h with ⟨z, o⟩ | ⟨z, o⟩
  · rcases h' with ⟨z', o'⟩ | ⟨z', o'⟩
    · obtain ⟨u1, u2⟩ := oI o
      obtain ⟨v1, v2⟩ := oI o'
      refine ⟨fun _ => yR_st hR (fun k j i1 i2 => ?_), by omega⟩
      rw [v1, cup_ne i2, u1, cup_ne i1]
    · exfalso; omega
  · rcases h' with ⟨z', o'⟩ | ⟨z', o'⟩
    · exfalso; omega
    · obtain ⟨u1, u2⟩ := oI o
      obtain ⟨v1, v2⟩ := oI o'
      have H : ∀ k j : Nat, ¬ (k = 0 ∧ j = 0) → ¬ (k = 253 ∧ j = 2) → ¬ (k = 3 ∧ j = 7) → ¬ (k = 254 ∧ j = 5) → g' k j = c k j := fun k j i1 i2 i3 i4 => by
        rw [v1, cup_ne i2, cup_ne i4, u1, cup_ne i1, cup_ne i3]
      refine ⟨fun _ => ⟨RC.spd hR.1 H ?_, hR.2.up (H _ _ (by omega) (by omega) (by omega) (by omega)) (H _ _ (by omega) (by omega) (by omega) (by omega)) (fun k j _ _ => H _ _ (by omega) (by omega) (by omega) (by omega)) (fun j _ _ => H _ _ (by omega) (by omega) (by omega) (by omega)) (fun j _ _ => H _ _ (by omega) (by omega) (by omega) (by omega))⟩, by omega⟩
      rw [v1, cup_ne (by decide), cup_ne (by decide), u1, cup_ne (by decide), cup_at, cup_ne (by decide), cup_at]
theorem spd_rng {c : cg} (h : aInv ytyt ytyp c) : 0 ≤ c 3 7 ∧ c 3 7 ≤ 60 :=
  (h 3 _ _ rfl rfl).1 (0, 11, [(0, 0, 1, 0, 5), (3, 3, 1, 0, 6), (5, 5, 1, 0, 99), (6, 6, 1, 0, 99), (7, 7, 1, 0, 60), (9, 9, 1, 0, 16)]) List.mem_cons_self (7, 7, 1, 0, 60) (by decide) 7 (by decide) (by decide) ⟨by decide, by decide, by decide⟩
theorem mil_rng {c : cg} (h : aInv ytyt ytyp c) {i : Nat} (hi : i < 5) : 0 ≤ c 4 i ∧ c 4 i ≤ 60 :=
  (h 4 _ _ rfl rfl).1 (0, 4, [(0, 4, 1, 0, 60)]) List.mem_cons_self (0, 4, 1, 0, 60) List.mem_cons_self i (by show (0 : Int) ≤ (i : Int); omega) (by show (i : Int) ≤ 4; omega) ⟨by show (0 : Int) ≤ (i : Int); omega, by show (i : Int) ≤ 4; omega, by show ((i : Int) - 0) % 1 = 0; omega⟩
theorem tt_road : TT sv L 317 := by
  intro c g g' al r r' n n' lf lf' hP _ har _ h0 hl h h0' hl' h'
  obtain ⟨hR, hI, -, hf, hf', -⟩ := hP
  obtain ⟨a, b, rfl⟩ : ∃ a b, al = [a, b] := by
    match al, Option.some.inj har with
    | [a, b], _ => exact ⟨a, b, rfl⟩
  obtain ⟨np, nq, ⟨h5, h6⟩, ⟨a1, a2, a3, a4⟩, -, -, a7, a8⟩ := hR.1
  have G : ∀ k j : Nat, 253 ≤ k → k < 270 → g k j = c k j := fun k j e1 e2 => by rw [hf k e1 e2]
  have d0 : g 254 0 = (np : Int) := by rw [G _ _ (by decide) (by decide)]; exact a2
  have sp := spd_rng hI
  have hfn : ∀ {x y : Int}, g = cup c 0 0 x → g' = cup g 253 2 y → yR 0 g' := fun e1 e2 => yR_st hR (fun k j i1 i2 => by rw [e2, cup_ne i2, e1, cup_ne i1])
  rcases t_road0 h h0 hl.1 hl.2.1 with ⟨z, o⟩ | ⟨z, g1, r1, k1, h⟩
  · rcases m_road0 h' h0' hl'.1 hl'.2.1 with ⟨z', o'⟩ | ⟨z', -⟩ | ⟨z', -⟩
    · obtain ⟨u1, u2⟩ := oI o
      obtain ⟨v1, v2⟩ := oI o'
      exact ⟨fun _ => hfn u1 v1, by omega⟩
    · exfalso; omega
    · exfalso; omega
  · obtain ⟨A, rfl⟩ : ∃ A : Nat, a = (A : Int) := ⟨a.toNat, by omega⟩
    obtain ⟨B, rfl⟩ : ∃ B : Nat, b = (B : Int) := ⟨b.toNat, by omega⟩
    have m1 := mil_rng hI (i := A) (by omega)
    have m2 := mil_rng hI (i := B) (by omega)
    have x1 : g 254 (10 + A) = c 4 A := by rw [G _ _ (by decide) (by decide), show 10 + A = 0 + 10 + A by omega]; exact (a7 A (by omega)).symm
    have x2 : g 254 (10 + B) = c 4 B := by rw [G _ _ (by decide) (by decide), show 10 + B = 0 + 10 + B by omega]; exact (a7 B (by omega)).symm
    have x3 : g 254 5 = c 3 7 := by rw [G _ _ (by decide) (by decide)]; exact a8.symm
    have hh := t_hrs (A := A) (B := B) (by omega) (by omega) rfl rfl rfl k1 rfl rfl rfl
    rw [w32_id (z := c 4 A - c 4 B) (by omega) (by omega), neg32 (z := c 4 A - c 4 B) (by omega) (by omega)] at hh
    rcases m_road0 h' h0' hl'.1 hl'.2.1 with ⟨z', o'⟩ | ⟨z', lf2, y0, y1, y2, h'⟩ | ⟨z', o'⟩
    · exfalso; omega
    · have hm := m_road33 (A := A) (B := B) (by omega) (by omega) x1 x2 x3 h' y0 y1 y2
      rw [w32_id (z := c 4 A - c 4 B) (by omega) (by omega), neg32 (z := c 4 A - c 4 B) (by omega) (by omega)] at hm
      have qn : ∀ {D : Int}, 0 < D → D ≤ 60 → 0 < c 3 7 → qdi (w32 (w32 (D + c 3 7) - 1)) (c 3 7) ≠ -1 := by
        intro D d1 d2 d3
        rw [w32_id (z := D + c 3 7) (by omega) (by omega), w32_id (by omega) (by omega)]
        have := qdi_p (D + c 3 7 - 1).toNat (by omega) (c 3 7).toNat (by omega)
        rw [show (((D + c 3 7 - 1).toNat : Nat) : Int) = D + c 3 7 - 1 by omega, show (((c 3 7).toNat : Nat) : Int) = c 3 7 by omega] at this
        exact this
      rcases hh with ⟨w, o⟩ | ⟨w, o⟩ | ⟨w, o⟩ | ⟨w, o⟩ | ⟨w, o⟩ <;> obtain ⟨s1, s2⟩ := oI o <;> rw [s1, s2] at h <;> rcases hm with ⟨w', o'⟩ | ⟨w', o'⟩ | ⟨w', o'⟩ | ⟨w', o'⟩ <;> obtain ⟨v1, v2⟩ := oI o'
      all_goals first
        | (exfalso; clear h s2 v2; omega)
        | skip
      · have q := qn (D := c 4 A - c 4 B) (by omega) (by omega) (by omega)
        rcases h with ⟨w1, o⟩ | ⟨w1, o⟩
        · obtain ⟨u1, u2⟩ := oI o
          exact ⟨fun _ => hfn u1 v1, by rw [u2, v2]⟩
        · exact absurd w1 q
      · rcases h with ⟨w1, o⟩ | ⟨w1, o⟩
        · exact absurd rfl w1
        · obtain ⟨u1, u2⟩ := oI o
          exact ⟨fun _ => hfn u1 v1, by rw [u2, v2]⟩
      · rcases h with ⟨w1, o⟩ | ⟨w1, o⟩
        · obtain ⟨u1, u2⟩ := oI o
          exact ⟨fun _ => hfn u1 v1, by rw [u2, v2]⟩
        · exact absurd w1 (by decide)
      · have q := qn (D := -(c 4 A - c 4 B)) (by omega) (by omega) (by omega)
        rcases h with ⟨w1, o⟩ | ⟨w1, o⟩
        · obtain ⟨u1, u2⟩ := oI o
          exact ⟨fun _ => hfn u1 v1, by rw [u2, v2]⟩
        · exact absurd w1 q
    · have hz : (A : Int) = (B : Int) := z'.2.2.2.2
      obtain ⟨v1, v2⟩ := oI o'
      rcases hh with ⟨w, o⟩ | ⟨w, o⟩ | ⟨w, o⟩ | ⟨w, o⟩ | ⟨w, o⟩ <;> obtain ⟨s1, s2⟩ := oI o <;> rw [s1, s2] at h
      all_goals first
        | (exfalso; clear h s2 v2; omega)
        | skip
      rcases h with ⟨w1, o⟩ | ⟨w1, o⟩
      · obtain ⟨u1, u2⟩ := oI o
        exact ⟨fun _ => hfn u1 v1, by rw [u2, v2]⟩
      · exact absurd w1 (by decide)
end Rid
