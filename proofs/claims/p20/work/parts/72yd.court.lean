/-! both readers of a court: the court that is there then -/
theorem DR.rd {c d : cg} {np nq : Nat} (h : DR c d np nq) : (c 45 5 = d 254 2979 ∧ c 45 6 = d 254 2980 ∧ c 45 7 = d 254 2981 ∧ c 45 8 = d 254 2982 ∧ c 45 9 = d 254 2978) ∧ (∀ i : Nat, i < nq → (∀ j : Nat, j < 5 → c (59 + 2 * i) (j + 1) = d 254 (2991 + 6 * i + j)) ∧ ∀ h : Nat, h < 8 → c (60 + 2 * i) h = d 254 (3027 + 8 * i + h)) ∧ c 45 9 = 0 := by
  obtain ⟨⟨a1, a2⟩, a3, a4, a5, a6, a7, a8, ⟨e1, e2, e3, e4, e5, e6, e7⟩, a10⟩ := h
  refine ⟨⟨e1, e2, e3, by rw [e4, e5], by rw [e6, e7]⟩, fun i hi => ?_, e6⟩
  obtain ⟨p1, p2, p3, p4, p5, p6⟩ := a7 i hi
  refine ⟨fun j hj => ?_, p6⟩
  rcases (show j = 0 ∨ j = 1 ∨ j = 2 ∨ j = 3 ∨ j = 4 from by omega) with e | e | e | e | e <;> subst e
  · exact p1
  · exact p2
  · exact p3
  · exact p4
  · exact p5
/-- what the columns say of a court -/
theorem spd_rng {c : cg} (h : aInv ytyt ytyp c) : (0 ≤ c 3 5 ∧ c 3 5 ≤ 99) ∧ (0 ≤ c 3 6 ∧ c 3 6 ≤ 99) ∧ (0 ≤ c 3 7 ∧ c 3 7 ≤ 60) :=
  ⟨(h 3 _ _ rfl rfl).1 (0, 11, [(0, 0, 1, 0, 5), (3, 3, 1, 0, 6), (5, 5, 1, 0, 99), (6, 6, 1, 0, 99), (7, 7, 1, 0, 60), (9, 9, 1, 0, 16)]) List.mem_cons_self (5, 5, 1, 0, 99) (by decide) 5 (by decide) (by decide) ⟨by decide, by decide, by decide⟩, (h 3 _ _ rfl rfl).1 (0, 11, [(0, 0, 1, 0, 5), (3, 3, 1, 0, 6), (5, 5, 1, 0, 99), (6, 6, 1, 0, 99), (7, 7, 1, 0, 60), (9, 9, 1, 0, 16)]) List.mem_cons_self (6, 6, 1, 0, 99) (by decide) 6 (by decide) (by decide) ⟨by decide, by decide, by decide⟩, (h 3 _ _ rfl rfl).1 (0, 11, [(0, 0, 1, 0, 5), (3, 3, 1, 0, 6), (5, 5, 1, 0, 99), (6, 6, 1, 0, 99), (7, 7, 1, 0, 60), (9, 9, 1, 0, 16)]) List.mem_cons_self (7, 7, 1, 0, 60) (by decide) 7 (by decide) (by decide) ⟨by decide, by decide, by decide⟩⟩
theorem mil_rng {c : cg} (h : aInv ytyt ytyp c) {i : Nat} (hi : i < 5) : 0 ≤ c 4 i ∧ c 4 i ≤ 60 :=
  (h 4 _ _ rfl rfl).1 (0, 4, [(0, 4, 1, 0, 60)]) List.mem_cons_self (0, 4, 1, 0, 60) List.mem_cons_self i (by show (0 : Int) ≤ (i : Int); omega) (by show (i : Int) ≤ 4; omega) ⟨by show (0 : Int) ≤ (i : Int); omega, by show (i : Int) ≤ 4; omega, by show ((i : Int) - 0) % 1 = 0; omega⟩
theorem prs_rng {c : cg} (h : aInv ytyt ytyp c) {i : Nat} (hi : i < 6) : (0 ≤ c (17 + 2 * i) 2 ∧ c (17 + 2 * i) 2 ≤ 1) ∧ (0 ≤ c (17 + 2 * i) 3 ∧ c (17 + 2 * i) 3 ≤ 1) ∧ (0 ≤ c (17 + 2 * i) 5 ∧ c (17 + 2 * i) 5 ≤ 63) ∧ ∀ t : Nat, t < 8 → -1 ≤ c (18 + 2 * i) t := by
  rcases (show i = 0 ∨ i = 1 ∨ i = 2 ∨ i = 3 ∨ i = 4 ∨ i = 5 from by omega) with e | e | e | e | e | e <;> subst e
  · exact ⟨(h 17 _ _ rfl rfl).1 (0, 6, [(2, 2, 1, 0, 1), (3, 3, 1, 0, 1), (5, 5, 1, 0, 63)]) List.mem_cons_self (2, 2, 1, 0, 1) (by decide) 2 (by decide) (by decide) ⟨by decide, by decide, by decide⟩, (h 17 _ _ rfl rfl).1 (0, 6, [(2, 2, 1, 0, 1), (3, 3, 1, 0, 1), (5, 5, 1, 0, 63)]) List.mem_cons_self (3, 3, 1, 0, 1) (by decide) 3 (by decide) (by decide) ⟨by decide, by decide, by decide⟩, (h 17 _ _ rfl rfl).1 (0, 6, [(2, 2, 1, 0, 1), (3, 3, 1, 0, 1), (5, 5, 1, 0, 63)]) List.mem_cons_self (5, 5, 1, 0, 63) (by decide) 5 (by decide) (by decide) ⟨by decide, by decide, by decide⟩, fun t ht => ((h 18 _ _ rfl rfl).1 (0, 7, [(0, 7, 1, (-1), 4)]) List.mem_cons_self (0, 7, 1, (-1), 4) List.mem_cons_self t (by show (0 : Int) ≤ (t : Int); omega) (by show (t : Int) ≤ 7; omega) ⟨by show (0 : Int) ≤ (t : Int); omega, by show (t : Int) ≤ 7; omega, by show ((t : Int) - 0) % 1 = 0; omega⟩).1⟩
  · exact ⟨(h 19 _ _ rfl rfl).1 (0, 6, [(2, 2, 1, 0, 1), (3, 3, 1, 0, 1), (5, 5, 1, 0, 63)]) List.mem_cons_self (2, 2, 1, 0, 1) (by decide) 2 (by decide) (by decide) ⟨by decide, by decide, by decide⟩, (h 19 _ _ rfl rfl).1 (0, 6, [(2, 2, 1, 0, 1), (3, 3, 1, 0, 1), (5, 5, 1, 0, 63)]) List.mem_cons_self (3, 3, 1, 0, 1) (by decide) 3 (by decide) (by decide) ⟨by decide, by decide, by decide⟩, (h 19 _ _ rfl rfl).1 (0, 6, [(2, 2, 1, 0, 1), (3, 3, 1, 0, 1), (5, 5, 1, 0, 63)]) List.mem_cons_self (5, 5, 1, 0, 63) (by decide) 5 (by decide) (by decide) ⟨by decide, by decide, by decide⟩, fun t ht => ((h 20 _ _ rfl rfl).1 (0, 7, [(0, 7, 1, (-1), 4)]) List.mem_cons_self (0, 7, 1, (-1), 4) List.mem_cons_self t (by show (0 : Int) ≤ (t : Int); omega) (by show (t : Int) ≤ 7; omega) ⟨by show (0 : Int) ≤ (t : Int); omega, by show (t : Int) ≤ 7; omega, by show ((t : Int) - 0) % 1 = 0; omega⟩).1⟩
  · exact ⟨(h 21 _ _ rfl rfl).1 (0, 6, [(2, 2, 1, 0, 1), (3, 3, 1, 0, 1), (5, 5, 1, 0, 63)]) List.mem_cons_self (2, 2, 1, 0, 1) (by decide) 2 (by decide) (by decide) ⟨by decide, by decide, by decide⟩, (h 21 _ _ rfl rfl).1 (0, 6, [(2, 2, 1, 0, 1), (3, 3, 1, 0, 1), (5, 5, 1, 0, 63)]) List.mem_cons_self (3, 3, 1, 0, 1) (by decide) 3 (by decide) (by decide) ⟨by decide, by decide, by decide⟩, (h 21 _ _ rfl rfl).1 (0, 6, [(2, 2, 1, 0, 1), (3, 3, 1, 0, 1), (5, 5, 1, 0, 63)]) List.mem_cons_self (5, 5, 1, 0, 63) (by decide) 5 (by decide) (by decide) ⟨by decide, by decide, by decide⟩, fun t ht => ((h 22 _ _ rfl rfl).1 (0, 7, [(0, 7, 1, (-1), 4)]) List.mem_cons_self (0, 7, 1, (-1), 4) List.mem_cons_self t (by show (0 : Int) ≤ (t : Int); omega) (by show (t : Int) ≤ 7; omega) ⟨by show (0 : Int) ≤ (t : Int); omega, by show (t : Int) ≤ 7; omega, by show ((t : Int) - 0) % 1 = 0; omega⟩).1⟩
  · exact ⟨(h 23 _ _ rfl rfl).1 (0, 6, [(2, 2, 1, 0, 1), (3, 3, 1, 0, 1), (5, 5, 1, 0, 63)]) List.mem_cons_self (2, 2, 1, 0, 1) (by decide) 2 (by decide) (by decide) ⟨by decide, by decide, by decide⟩, (h 23 _ _ rfl rfl).1 (0, 6, [(2, 2, 1, 0, 1), (3, 3, 1, 0, 1), (5, 5, 1, 0, 63)]) List.mem_cons_self (3, 3, 1, 0, 1) (by decide) 3 (by decide) (by decide) ⟨by decide, by decide, by decide⟩, (h 23 _ _ rfl rfl).1 (0, 6, [(2, 2, 1, 0, 1), (3, 3, 1, 0, 1), (5, 5, 1, 0, 63)]) List.mem_cons_self (5, 5, 1, 0, 63) (by decide) 5 (by decide) (by decide) ⟨by decide, by decide, by decide⟩, fun t ht => ((h 24 _ _ rfl rfl).1 (0, 7, [(0, 7, 1, (-1), 4)]) List.mem_cons_self (0, 7, 1, (-1), 4) List.mem_cons_self t (by show (0 : Int) ≤ (t : Int); omega) (by show (t : Int) ≤ 7; omega) ⟨by show (0 : Int) ≤ (t : Int); omega, by show (t : Int) ≤ 7; omega, by show ((t : Int) - 0) % 1 = 0; omega⟩).1⟩
  · exact ⟨(h 25 _ _ rfl rfl).1 (0, 6, [(2, 2, 1, 0, 1), (3, 3, 1, 0, 1), (5, 5, 1, 0, 63)]) List.mem_cons_self (2, 2, 1, 0, 1) (by decide) 2 (by decide) (by decide) ⟨by decide, by decide, by decide⟩, (h 25 _ _ rfl rfl).1 (0, 6, [(2, 2, 1, 0, 1), (3, 3, 1, 0, 1), (5, 5, 1, 0, 63)]) List.mem_cons_self (3, 3, 1, 0, 1) (by decide) 3 (by decide) (by decide) ⟨by decide, by decide, by decide⟩, (h 25 _ _ rfl rfl).1 (0, 6, [(2, 2, 1, 0, 1), (3, 3, 1, 0, 1), (5, 5, 1, 0, 63)]) List.mem_cons_self (5, 5, 1, 0, 63) (by decide) 5 (by decide) (by decide) ⟨by decide, by decide, by decide⟩, fun t ht => ((h 26 _ _ rfl rfl).1 (0, 7, [(0, 7, 1, (-1), 4)]) List.mem_cons_self (0, 7, 1, (-1), 4) List.mem_cons_self t (by show (0 : Int) ≤ (t : Int); omega) (by show (t : Int) ≤ 7; omega) ⟨by show (0 : Int) ≤ (t : Int); omega, by show (t : Int) ≤ 7; omega, by show ((t : Int) - 0) % 1 = 0; omega⟩).1⟩
  · exact ⟨(h 27 _ _ rfl rfl).1 (0, 6, [(2, 2, 1, 0, 1), (3, 3, 1, 0, 1), (5, 5, 1, 0, 63)]) List.mem_cons_self (2, 2, 1, 0, 1) (by decide) 2 (by decide) (by decide) ⟨by decide, by decide, by decide⟩, (h 27 _ _ rfl rfl).1 (0, 6, [(2, 2, 1, 0, 1), (3, 3, 1, 0, 1), (5, 5, 1, 0, 63)]) List.mem_cons_self (3, 3, 1, 0, 1) (by decide) 3 (by decide) (by decide) ⟨by decide, by decide, by decide⟩, (h 27 _ _ rfl rfl).1 (0, 6, [(2, 2, 1, 0, 1), (3, 3, 1, 0, 1), (5, 5, 1, 0, 63)]) List.mem_cons_self (5, 5, 1, 0, 63) (by decide) 5 (by decide) (by decide) ⟨by decide, by decide, by decide⟩, fun t ht => ((h 28 _ _ rfl rfl).1 (0, 7, [(0, 7, 1, (-1), 4)]) List.mem_cons_self (0, 7, 1, (-1), 4) List.mem_cons_self t (by show (0 : Int) ≤ (t : Int); omega) (by show (t : Int) ≤ 7; omega) ⟨by show (0 : Int) ≤ (t : Int); omega, by show (t : Int) ≤ 7; omega, by show ((t : Int) - 0) % 1 = 0; omega⟩).1⟩
/-- the court that is read, the class's cells and the reference's apart -/
def RCp (c d : cg) : Prop := ∃ np nq : Nat, ((∀ i : Nat, i < np → NR (c 5 i) (d 255 i)) ∧ ∀ i : Nat, i < nq → NR (c (17 + 2 * i) 0) (d 255 (5 + i))) ∧ CT c d np nq 0 ∧ (∀ i : Nat, i < nq → (0 ≤ c (17 + 2 * i) 1 ∧ c (17 + 2 * i) 1 ≤ 999) ∧ c (17 + 2 * i) 4 ≠ (i : Int) ∧ ∀ t : Nat, t < 8 → c (18 + 2 * i) t < (np : Int)) ∧ c 8 0 = 0 ∧ d 254 7 = -1
theorem xnd_at {B : Nat} {g g' : cg} (h : EQd (xND B) g g') : (∀ j : Nat, j < 10 → g' B j = g B j) ∧ (∀ j : Nat, j < 5 → g' (B + 1) j = g (B + 1) j) ∧ (∀ j : Nat, j < 5 → g' (B + 2) j = g (B + 2) j) ∧ (∀ i j : Nat, i < 6 → j < 6 → g' (B + 14 + 2 * i) j = g (B + 14 + 2 * i) j) ∧ (∀ i j : Nat, i < 6 → j < 8 → g' (B + 15 + 2 * i) j = g (B + 15 + 2 * i) j) ∧ ∀ i j : Nat, i < 16 → j < 8 → g' (B + 26 + i) j = g (B + 26 + i) j := by
  have P : ∀ i : Nat, i < 6 → ∀ q ∈ [(B + 14 + 2 * i, (0 : Int), (5 : Int)), (B + 15 + 2 * i, (0 : Int), (7 : Int))], q ∈ xND B := fun i hi q hq => List.mem_append.mpr (Or.inr (List.mem_append.mpr (Or.inl (List.mem_flatMap.mpr ⟨i, List.mem_range.mpr hi, hq⟩))))
  refine ⟨fun j hj => h.at (k := B) (lo := 0) (hi := 9) (List.mem_append.mpr (Or.inl List.mem_cons_self)) j (by omega) (by omega), fun j hj => h.at (k := B + 1) (lo := 0) (hi := 4) (List.mem_append.mpr (Or.inl (List.mem_cons_of_mem _ List.mem_cons_self))) j (by omega) (by omega), fun j hj => h.at (k := B + 2) (lo := 0) (hi := 4) (List.mem_append.mpr (Or.inl (List.mem_cons_of_mem _ (List.mem_cons_of_mem _ List.mem_cons_self)))) j (by omega) (by omega), fun i j hi hj => h.at (P i hi _ List.mem_cons_self) j (by omega) (by omega), fun i j hi hj => h.at (P i hi _ (List.mem_cons_of_mem _ List.mem_cons_self)) j (by omega) (by omega), fun i j hi hj => h.at (k := B + 26 + i) (lo := 0) (hi := 7) (List.mem_append.mpr (Or.inr (List.mem_append.mpr (Or.inr (List.mem_map.mpr ⟨i, List.mem_range.mpr hi, rfl⟩))))) j (by omega) (by omega)⟩
theorem mk_in {i : Nat} (hi : i < 3) {q : Nat × Int × Int} (hq : q ∈ xND (127 + 42 * i)) : q ∈ xCD 127 ++ (xCD 169 ++ xCD 211) := by
  rcases (show i = 0 ∨ i = 1 ∨ i = 2 from by omega) with e | e | e <;> subst e
  · exact List.mem_append.mpr (Or.inl (List.mem_append.mpr (Or.inl hq)))
  · exact List.mem_append.mpr (Or.inr (List.mem_append.mpr (Or.inl (List.mem_append.mpr (Or.inl hq)))))
  · exact List.mem_append.mpr (Or.inr (List.mem_append.mpr (Or.inr (List.mem_append.mpr (Or.inl hq)))))
theorem xnd_lt {B : Nat} (hB : B ≤ 211) {q : Nat × Int × Int} (hq : q ∈ xND B) : q.1 < 253 := by
  rcases List.mem_append.mp hq with hq | hq
  · rcases List.mem_cons.mp hq with e | hq
    · rw [e]; show B < 253; omega
    · rcases List.mem_cons.mp hq with e | hq
      · rw [e]; show B + 1 < 253; omega
      · rw [List.mem_singleton.mp hq]; show B + 2 < 253; omega
  · rcases List.mem_append.mp hq with hq | hq
    · obtain ⟨i, hi, hq⟩ := List.mem_flatMap.mp hq
      have hi := List.mem_range.mp hi
      rcases List.mem_cons.mp hq with e | hq
      · rw [e]; show B + 14 + 2 * i < 253; omega
      · rw [List.mem_singleton.mp hq]; show B + 15 + 2 * i < 253; omega
    · obtain ⟨i, hi, hq⟩ := List.mem_map.mp hq
      have hi := List.mem_range.mp hi
      rw [← hq]; show B + 26 + i < 253; omega
theorem xcd_lt {B : Nat} (hB : B ≤ 211) {q : Nat × Int × Int} (hq : q ∈ xCD B) : q.1 < 253 := by
  rcases List.mem_append.mp hq with hq | hq
  · exact xnd_lt hB hq
  · rcases List.mem_cons.mp hq with e | hq
    · rw [e]; show B + 5 < 253; omega
    · obtain ⟨i, hi, hq⟩ := List.mem_map.mp hq
      have hi := List.mem_range.mp hi
      rw [← hq]; show B + 6 + i < 253; omega
theorem mk_inx {i : Nat} (hi : i < 3) {q : Nat × Int × Int} (hq : q ∈ xCD (127 + 42 * i)) : q ∈ xCD 127 ++ (xCD 169 ++ xCD 211) := by
  rcases (show i = 0 ∨ i = 1 ∨ i = 2 from by omega) with e | e | e <;> subst e
  · exact List.mem_append.mpr (Or.inl hq)
  · exact List.mem_append.mpr (Or.inr (List.mem_append.mpr (Or.inl hq)))
  · exact List.mem_append.mpr (Or.inr (List.mem_append.mpr (Or.inr hq)))
/-- a mark that no call of these touches -/
theorem mk_frx {i : Nat} {g g' : cg} (hi : i < 3) (M : ∀ q ∈ xCD 127 ++ (xCD 169 ++ xCD 211), ∀ j : Nat, q.2.1 ≤ (j : Int) → (j : Int) ≤ q.2.2 → q.1 < 253 → g' q.1 j = g q.1 j) (h4 : ∀ j : Nat, 744 ≤ j → j < 2976 → g' 254 j = g 254 j) (h5 : ∀ j : Nat, 12 ≤ j → j < 48 → g' 255 j = g 255 j) (h : RCX (127 + 42 * i) (744 * (i + 1)) (744 * (i + 1) + 260) (12 * (i + 1)) g) : RCX (127 + 42 * i) (744 * (i + 1)) (744 * (i + 1) + 260) (12 * (i + 1)) g' := by
  refine h.frx (by omega) (fun q hq j j1 j2 => ?_)
  rcases List.mem_append.mp hq with hq | hq
  · rcases List.mem_cons.mp hq with e | hq
    · subst e
      exact h4 j (by have j1 : ((744 * (i + 1) : Nat) : Int) ≤ (j : Int) := j1; omega) (by have j2 : (j : Int) ≤ ((744 * (i + 1) + 259 : Nat) : Int) := j2; omega)
    · rcases List.mem_cons.mp hq with e | hq
      · subst e
        exact h4 j (by have j1 : ((744 * (i + 1) + 260 : Nat) : Int) ≤ (j : Int) := j1; omega) (by have j2 : (j : Int) ≤ ((744 * (i + 1) + 260 + 479 : Nat) : Int) := j2; omega)
      · have e := List.mem_singleton.mp hq
        subst e
        exact h5 j (by have j1 : ((12 * (i + 1) : Nat) : Int) ≤ (j : Int) := j1; omega) (by have j2 : (j : Int) ≤ ((12 * (i + 1) + 11 : Nat) : Int) := j2; omega)
  · exact M q (mk_inx hi hq) j j1 j2 (xcd_lt (by omega) hq)
section Ct2
variable {sv : Nat → Int32} {L : Nat} {m : Nat}
theorem cm2_l {o : cg × Option cv} : ∀ (n : Nat) {lf : dlf} {g : cg} {b : Nat}, lf 0 = (4, 253) → lf 3 = (0, (b : Int)) → b ≤ 744 → zr sv L n 274 59 lf [] g o → ∃ N g1 lf1, lf1 0 = (4, 253) ∧ lf1 3 = (0, 0) ∧ zr sv L N 274 90 lf1 [] g1 o ∧ (∀ k : Nat, k ≠ 254 → g1 k = g k) ∧ (∀ j : Nat, j < b ∨ 744 ≤ j → g1 254 j = g 254 j) ∧ ∀ j : Nat, b ≤ j → j < 744 → g1 254 j = g 254 (2976 + j)
  | 0, _, _, _, _, _, _, h => (zr_0 h).elim
  | n + 1, lf, g, b, h0, h3, hb, h => by
    rcases m_court59 h h0 h3 with ⟨x1, lx, z0, z3, h⟩ | ⟨x1, h⟩
    · exact ⟨n, g, lx, z0, z3, h, fun _ _ => rfl, fun _ _ => rfl, fun j h1 h2 => by omega⟩
    · have e : w32 (2976 + (b : Int)) = ((2976 + b : Nat) : Int) := by
        rw [w32_id (by omega) (by omega)]
        omega
      rw [e] at h
      obtain ⟨lx, z0, z3, h⟩ := h (by omega) (by omega)
      rw [show ((b : Int)).toNat = b from rfl, show (((2976 + b : Nat) : Int)).toNat = 2976 + b from rfl] at h
      obtain ⟨N, g1, lf1, y0, y1, y2, y3, y4, y5⟩ := cm2_l n (b := b + 1) z0 (by rw [z3, w32_id (by omega) (by omega)]; rfl) (by omega) h
      refine ⟨N, g1, lf1, y0, y1, y2, fun k hk => (y3 k hk).trans (cup_row g _ _ hk), fun j hj => by rw [y4 j (by omega), cup_ne (by omega)], fun j j1 j2 => ?_⟩
      by_cases e : j = b
      · subst e
        rw [y4 _ (by omega), cup_at]
      · rw [y5 j (by omega) j2, cup_ne (by omega)]
theorem cn2_l {o : cg × Option cv} : ∀ (n : Nat) {lf : dlf} {g : cg} {b : Nat}, lf 0 = (4, 253) → lf 3 = (0, (b : Int)) → b ≤ 12 → zr sv L n 274 90 lf [] g o → ∃ N g1 lf1, lf1 0 = (4, 253) ∧ zr sv L N 274 117 lf1 [] g1 o ∧ (∀ k : Nat, k ≠ 255 → g1 k = g k) ∧ (∀ j : Nat, j < b ∨ 12 ≤ j → g1 255 j = g 255 j) ∧ ∀ j : Nat, b ≤ j → j < 12 → g1 255 j = g 255 (48 + j)
  | 0, _, _, _, _, _, _, h => (zr_0 h).elim
  | n + 1, lf, g, b, h0, h3, hb, h => by
    rcases m_court90 h h0 h3 with ⟨x1, lx, z0, h⟩ | ⟨x1, h⟩
    · exact ⟨n, g, lx, z0, h, fun _ _ => rfl, fun _ _ => rfl, fun j h1 h2 => by omega⟩
    · have e : w32 (48 + (b : Int)) = ((48 + b : Nat) : Int) := by
        rw [w32_id (by omega) (by omega)]
        omega
      rw [e] at h
      obtain ⟨lx, z0, z3, h⟩ := h (by omega) (by omega)
      rw [show ((b : Int)).toNat = b from rfl, show (((48 + b : Nat) : Int)).toNat = 48 + b from rfl] at h
      obtain ⟨N, g1, lf1, y0, y1, y2, y4, y5⟩ := cn2_l n (b := b + 1) z0 (by rw [z3, w32_id (by omega) (by omega)]; rfl) (by omega) h
      refine ⟨N, g1, lf1, y0, y1, fun k hk => (y2 k hk).trans (cup_row g _ _ hk), fun j hj => by rw [y4 j (by omega), cup_ne (by omega)], fun j j1 j2 => ?_⟩
      by_cases e : j = b
      · subst e
        rw [y4 _ (by omega), cup_at]
      · rw [y5 j (by omega) j2, cup_ne (by omega)]
theorem court_ok {n n' : Nat} {lf lf' : dlf} {c d c' d' : cg} {a r r' : Int} (hP : PRE c d) (h : zr sv L n 273 0 lf [] c (c', some (0, r))) (h0 : lf 0 = (4, 0)) (h1 : lf 1 = (0, a)) (h' : zr sv L n' 274 0 lf' [] d (d', some (0, r'))) (h0' : lf' 0 = (4, 253)) (h1' : lf' 1 = (0, a)) : 0 ≤ r → 0 ≤ r' → RCp c' d' := by
  intro p0 p0'
  obtain ⟨k, hk9, hk, hk', hcb, hdb, htp, hks⟩ := hP
  obtain ⟨g1, r2, k1, h⟩ := t_court h h0 h1
  obtain ⟨d1, r2', k2, h'⟩ := m_court0 h' h0' h1'
  have refuse : r2 = 0 → r2' = 0 → False := by
    intro z1 z2
    rcases h with ⟨y1, -⟩ | ⟨y1, g12, r13, k3, h⟩
    · exact absurd z1 y1
    · rcases h' with ⟨y2, -⟩ | ⟨y2, g6, r7, k4, h'⟩
      · exact absurd z2 y2
      · have e1 := (oI (t_refuse k3 rfl rfl)).2
        have e2 := (oI (m_refuse k4 rfl rfl)).2
        have e3 := (oI h).2
        have e4 := (oI h').2
        omega
  rcases t_within k1 rfl rfl rfl with ⟨x1, x2⟩ | ⟨x1, ⟨x2, x3⟩ | ⟨x2, x3⟩⟩
  · rcases m_begins0 k2 rfl rfl rfl with ⟨y1, y2⟩ | ⟨y1, y2⟩
    · exact (refuse (oI x2).2 (oI y2).2).elim
    · omega
  · rcases m_begins0 k2 rfl rfl rfl with ⟨y1, y2⟩ | ⟨y1, ⟨y2, y3⟩ | ⟨y2, y3⟩⟩
    · omega
    · exact (refuse (oI x3).2 (oI y3).2).elim
    · omega
  · rcases m_begins0 k2 rfl rfl rfl with ⟨y1, y2⟩ | ⟨y1, ⟨y2, y3⟩ | ⟨y2, ⟨y3, lx, z0, z1, z3, k3⟩ | ⟨y3, y4⟩⟩⟩
    · omega
    · omega
    · obtain ⟨ma, hma⟩ : ∃ ma : Nat, a = (ma : Int) := ⟨a.toNat, by omega⟩
      rw [hma] at z1 k3
      obtain ⟨e1, e2⟩ := oI x3
      rcases h with ⟨u1, g4, r5, k4, h⟩ | ⟨u1, h⟩
      · -- the text
        obtain ⟨N, d2, lf2, w0, k5, w1, w2, w3⟩ := tx_l (m := ma) (by omega) n' (j := 0) z0 z1 z3 (Nat.zero_le _) (fun i hi => by
          rw [cup_row d _ _ (by decide), htp i (by omega)]; exact hcb i (by omega)) (fun i hi => absurd hi (Nat.not_lt_zero i)) k3
        obtain ⟨d4, k6, he⟩ := m_begins49 k5 w0
        obtain ⟨e3, e4⟩ := oI he
        -- the class's draft
        obtain ⟨c1, k7, c2, k8, ly, v0, v2, k9⟩ := t_takeCt0 k4 rfl rfl
        obtain ⟨c0, k10, he1⟩ := t_clear k7 rfl
        have e5 := oV (t_tclear k10 rfl)
        have e6 := oV he1
        obtain ⟨g5, r6, k11, g7, k12, he2⟩ := t_tbegin k8 rfl rfl
        have e7 := oV he2
        have hmin : g5 = cup c1 90 4 0 ∧ r6 = (ma : Int) := by
          rcases t_min k11 rfl rfl with ⟨q1, q2⟩ | ⟨q1, q2⟩
          · omega
          · obtain ⟨q3, q4⟩ := oI q2
            exact ⟨q3, by omega⟩
        obtain ⟨e8, e9⟩ := hmin
        have C45 : ∀ j : Nat, c1 45 j = cup (cup (cup (cup (cup (cup (cup (cup g1 0 5 0) 45 0 0) 45 3 0) 45 5 5) 45 6 2) 45 7 10) 45 8 0) 45 9 0 45 j := fun j => by
          rw [e6, e5, cup_ne (by omega), cup_ne (by omega), cup_ne (by omega)]
        have Crow : ∀ k : Nat, k ≠ 0 → k ≠ 45 → k ≠ 50 → c1 k = c k := fun k q1 q2 q3 => by
          rw [e6, e5, cup_row _ _ _ q3, cup_row _ _ _ q3, cup_row _ _ _ q3, cup_row _ _ _ q2, cup_row _ _ _ q2, cup_row _ _ _ q2, cup_row _ _ _ q2, cup_row _ _ _ q2, cup_row _ _ _ q2, cup_row _ _ _ q2, cup_row _ _ _ q1, e1]
        rw [e8, e9] at k12
        have c3row : ∀ k : Nat, k ≠ 88 → cup (cup (cup (cup (cup c1 90 4 0) 88 2 (ma : Int)) 88 3 0) 88 10 0) 88 11 (-1) k = cup c1 90 4 0 k := fun k q => by
          rw [cup_row _ _ _ q, cup_row _ _ _ q, cup_row _ _ _ q, cup_row _ _ _ q]
        have d3row : ∀ k : Nat, k ≠ 253 → cup (cup (cup (cup (cup d2 253 10 0) 253 18 0) 253 17 (-1)) 253 14 0) 253 19 0 k = d2 k := fun k q => by
          rw [cup_row _ _ _ q, cup_row _ _ _ q, cup_row _ _ _ q, cup_row _ _ _ q, cup_row _ _ _ q]
        have hE3 : TE (cup (cup (cup (cup (cup c1 90 4 0) 88 2 (ma : Int)) 88 3 0) 88 10 0) 88 11 (-1)) (cup (cup (cup (cup (cup d2 253 10 0) 253 18 0) 253 17 (-1)) 253 14 0) 253 19 0) ma := by
          refine ⟨by omega, ?_, ?_, ?_, ?_, ?_, ?_, by rw [cup_ne (by decide), cup_at], by rw [cup_at], by rw [cup_ne (by decide), cup_ne (by decide), cup_at]⟩
          · rw [cup_ne (by decide), cup_ne (by decide), cup_ne (by decide), cup_at]
          · rw [cup_ne (by decide), cup_ne (by decide), cup_ne (by decide), cup_ne (by decide), cup_ne (by decide), w1 253 (by decide), cup_at]
          · rw [c3row 2 (by decide), cup_row _ _ _ (by decide), Crow 2 (by decide) (by decide) (by decide)]
            exact hcb
          · unfold MBY at hdb ⊢
            rw [d3row 260 (by decide)]
            intro j hj
            by_cases e : j < ma
            · rw [w2 j e, cup_row d _ _ (by decide), htp j (by omega)]; exact hcb j (by omega)
            · rw [w3 j (by omega), cup_row d _ _ (by decide)]; exact hdb j hj
          · intro j hj
            rw [d3row 260 (by decide), c3row 2 (by decide), cup_row _ _ _ (by decide), Crow 2 (by decide) (by decide) (by decide), w2 j hj, cup_row d _ _ (by decide)]
            exact htp j (by omega)
          · intro i hi
            rw [c3row 89 (by decide), cup_row _ _ _ (by decide), Crow 89 (by decide) (by decide) (by decide)]
            exact hks i hi
        obtain ⟨f1, f2, hE4, hT4⟩ := adv_ahd (a := 0) hE3 (Eq.trans (b := (0 : Int)) (by rw [cup_ne (by decide), cup_ne (by decide), cup_at]) rfl) (Eq.trans (b := (0 : Int)) (by rw [cup_ne (by decide), cup_at]) rfl) (Nat.zero_le _) k12 rfl k6 rfl
        rcases h' with ⟨u2, d5, k13, lz, v3, v4, k14⟩ | ⟨u2, h'⟩
        · obtain ⟨p1, p2, p3, p4⟩ := plain_ok k13 rfl rfl
          rw [e3] at p1
          have hE5 := ((hE4.up (c' := g7) (d' := d5) rfl rfl rfl (p1 253 (by decide)) (p1 260 (by decide))).told (g7 90 4) 0)
          have hT5 := ((hT4.up (c' := g7) (d' := d5) rfl (p1 253 (by decide)) (p1 260 (by decide))).told (g7 90 4) 0)
          rw [cup_id rfl] at hE5 hT5
          have d6 : ∀ j : Nat, cup d5 253 20 0 254 j = d5 254 j := fun j => cup_ne (by omega)
          have c7 : ∀ j : Nat, g7 45 j = c1 45 j := fun j => by
            rw [f1.row (k := 45) (by decide), c3row 45 (by decide), cup_row _ _ _ (by decide)]
          have hS : SY g7 (cup d5 253 20 0) ma 0 0 := by
            refine ⟨hE5, hT5, ⟨⟨by decide, by decide⟩, ⟨?_, ?_, ?_, ?_⟩, fun i hi => absurd hi (Nat.not_lt_zero i), fun i hi => absurd hi (Nat.not_lt_zero i), fun i hi => absurd hi (Nat.not_lt_zero i), fun i hi => absurd hi (Nat.not_lt_zero i), fun i _ hi => ⟨?_, fun h hh => ?_⟩, ⟨?_, ?_, ?_, ?_, ?_, ?_, ?_⟩, ?_⟩, ?_⟩
            · exact Eq.trans (b := (0 : Int)) (by rw [c7, C45, cup_ne (by decide), cup_ne (by decide), cup_ne (by decide), cup_ne (by decide), cup_ne (by decide), cup_ne (by decide), cup_at]) rfl
            · exact Eq.trans (b := (0 : Int)) (by rw [d6, p3 2976 (by decide) (by decide) (by decide) (by decide) (by decide) (by decide)]) rfl
            · exact Eq.trans (b := (0 : Int)) (by rw [c7, C45, cup_ne (by decide), cup_ne (by decide), cup_ne (by decide), cup_ne (by decide), cup_ne (by decide), cup_at]) rfl
            · exact Eq.trans (b := (0 : Int)) (by rw [d6, p3 2977 (by decide) (by decide) (by decide) (by decide) (by decide) (by decide)]) rfl
            · rw [d6, p3 _ (by omega) (by omega) (by omega) (by omega) (by omega) (by omega)]
            · rw [d6, show 3027 + 8 * i + h = 3027 + (8 * i + h) by omega, p4 _ (by omega)]
            · rw [c7, C45, d6, p2.1, cup_ne (by decide), cup_ne (by decide), cup_ne (by decide), cup_ne (by decide), cup_at]
            · rw [c7, C45, d6, p2.2.1, cup_ne (by decide), cup_ne (by decide), cup_ne (by decide), cup_at]
            · rw [c7, C45, d6, p2.2.2.1, cup_ne (by decide), cup_ne (by decide), cup_at]
            · rw [c7, C45, cup_ne (by decide), cup_at]
            · rw [d6, p3 2982 (by decide) (by decide) (by decide) (by decide) (by decide) (by decide)]
            · rw [c7, C45, cup_at]
            · rw [d6, p3 2978 (by decide) (by decide) (by decide) (by decide) (by decide) (by decide)]
            · refine ⟨?_, fun i hi => absurd hi (Nat.not_lt_zero i), ?_, ?_⟩
              · rw [cup_at, f1.row (k := 90) (by decide), c3row 90 (by decide), cup_at]
                exact ⟨0, 0, 0, by decide, by decide, by decide, rfl, rfl⟩
              · exact Eq.trans (b := (0 : Int)) (by rw [f1.row (k := 50) (by decide), c3row 50 (by decide), cup_row _ _ _ (by decide), e6, e5, cup_ne (by omega), cup_ne (by omega), cup_at]) rfl
              · rw [d6]; exact p2.2.2.2
            · rw [cup_ne (by decide), p1 253 (by decide), f2 253 18 (by omega), cup_ne (by decide), cup_ne (by decide), cup_ne (by decide), cup_at]
          have hb0 : ((0 : Nat) : Int) ≤ g7 88 5 := by
            obtain ⟨p, hp, -⟩ := hT5
            omega
          rw [e7] at k9
          obtain ⟨N2, d7, lw, q0, k15, hfin⟩ := ct_l (m := ma) n (b := 0) hS v0 v2 hb0 k9 v3 v4 k14
          rcases hfin with ⟨q1, np, nq, hS7⟩ | ⟨q1, hF⟩
          · have hD7 := hS7.2.2.1
            rcases h with ⟨q2, g8, k16, g9, r9, k17, h⟩ | ⟨q2, h⟩
            · have C := call_3_45 k16 rfl rfl
              have e10 := (oI (t_give k17 rfl rfl)).1
              have e11 := (oI h).1
              rcases m_court50 k15 q0 with ⟨q3, -⟩ | ⟨q3, l1, l2, l3, k18⟩
              · exact absurd hS7.2.2.2 q3
              · obtain ⟨N3, d8, l4, l5, l6, k19, l7, -, l8⟩ := cm2_l N2 (b := 0) l2 l3 (by decide) k18
                obtain ⟨N4, d9, l9, l10, k20, l11, -, l12⟩ := cn2_l N3 (b := 0) l5 l6 (by decide) k19
                obtain ⟨g10, r10, k21, he3⟩ := m_court117 k20 l10
                have e12 := (oI he3).1
                rcases m_taken k21 rfl rfl with ⟨t1, g11, r11, k22, t2⟩ | ⟨t1, t2⟩
                · have e13 := (oI t2).1
                  have e14 := (oI (m_gives k22 rfl rfl)).1
                  have D4 : ∀ j : Nat, j < 744 → d' 254 j = d7 254 (2976 + j) := fun j hj => by rw [e12, e13, e14, cup_ne (by omega), cup_ne (by omega), l11 254 (by decide), l8 j (Nat.zero_le _) hj]
                  have D5 : ∀ j : Nat, j < 12 → d' 255 j = d7 255 (48 + j) := fun j hj => by rw [e12, e13, e14, cup_ne (by omega), cup_ne (by omega), l12 j (Nat.zero_le _) hj, l7 255 (by decide)]
                  have C3 : ∀ k j : Nat, k ≠ 0 → c' k j = g8 k j := fun k j hk => by rw [e11, e10, cup_ne (by omega)]
                  have hrd := hD7.rd
                  obtain ⟨⟨a1, a2⟩, ⟨b1, b2, b3, b4⟩, b5, b6, b7, -, -, -, -, b12, b13, b14⟩ := hD7
                  obtain ⟨⟨r5, r6, r7, r8, r9⟩, rp, r0⟩ := hrd
                  obtain ⟨-, f2, ⟨f3, f4⟩, f5, -, f7, -⟩ := C
                  have F5 : ∀ i : Nat, i < nq → (∀ j : Nat, j < 6 → c' (17 + 2 * i) j = g4 (59 + 2 * i) j) ∧ ∀ t : Nat, t < 8 → c' (18 + 2 * i) t = g4 (60 + 2 * i) t := fun i hi => ⟨fun j hj => (C3 _ j (by omega)).trans ((f5 i (by omega) (by omega)).1 j hj), fun t ht => (C3 _ t (by omega)).trans ((f5 i (by omega) (by omega)).2 t ht)⟩
                  have F2 : ∀ j : Nat, j = 0 ∨ j = 3 ∨ j = 5 ∨ j = 6 ∨ j = 7 ∨ j = 8 ∨ j = 9 → c' 3 j = g4 45 j := fun j hj => (C3 3 j (by decide)).trans (f2 j hj)
                  refine ⟨np, nq, ⟨fun i hi => ?_, fun i hi => ?_⟩, ⟨⟨a1, a2, by decide⟩, ⟨?_, ?_, ?_⟩, ⟨?_, ?_, ?_⟩, ⟨?_, ?_, ?_, ?_⟩, fun i hi => ?_, fun i hi => ⟨⟨?_, ?_, ?_, ?_, ?_⟩, fun t ht => ?_⟩, fun k hk => absurd hk (Nat.not_lt_zero k)⟩, fun i hi => ?_, ?_, ?_⟩
                  · rw [C3 5 i (by omega), D5 i (by omega)]
                    have q := f4 i (by omega)
                    rw [show g8 5 i = g8 (3 + 2) i from rfl, q]
                    exact b5 i hi
                  · rw [(F5 i hi).1 0 (by decide), D5 (5 + i) (by omega), show 48 + (5 + i) = 53 + i by omega]; exact b6 i hi
                  · rw [F2 0 (by omega)]; exact b1
                  · rw [F2 3 (by omega)]; exact b3
                  · rw [F2 9 (by omega)]; exact r0
                  · rw [D4 0 (by omega)]; exact b2
                  · rw [D4 1 (by omega)]; exact b4
                  · rw [D4 2 (by omega), ← r9]; exact r0
                  · rw [F2 5 (by omega), D4 3 (by omega)]; exact r5.symm
                  · rw [F2 6 (by omega), D4 4 (by omega)]; exact r6.symm
                  · rw [F2 7 (by omega), D4 5 (by omega)]; exact r7.symm
                  · rw [F2 8 (by omega), D4 6 (by omega)]; exact r8.symm
                  · rw [C3 4 i (by omega), D4 (10 + i) (by omega), show 2976 + (10 + i) = 2986 + i by omega, show g8 4 i = g8 (3 + 1) i from rfl, f3 i (by omega)]; exact (b7 i hi).symm
                  · rw [(F5 i hi).1 1 (by decide), D4 _ (by omega), show 2976 + (15 + 6 * i) = 2991 + 6 * i + 0 by omega]; exact ((rp i hi).1 0 (by decide)).symm
                  · rw [(F5 i hi).1 2 (by decide), D4 _ (by omega), show 2976 + (16 + 6 * i) = 2991 + 6 * i + 1 by omega]; exact ((rp i hi).1 1 (by decide)).symm
                  · rw [(F5 i hi).1 3 (by decide), D4 _ (by omega), show 2976 + (17 + 6 * i) = 2991 + 6 * i + 2 by omega]; exact ((rp i hi).1 2 (by decide)).symm
                  · rw [(F5 i hi).1 4 (by decide), D4 _ (by omega), show 2976 + (18 + 6 * i) = 2991 + 6 * i + 3 by omega]; exact ((rp i hi).1 3 (by decide)).symm
                  · rw [(F5 i hi).1 5 (by decide), D4 _ (by omega), show 2976 + (19 + 6 * i) = 2991 + 6 * i + 4 by omega]; exact ((rp i hi).1 4 (by decide)).symm
                  · unfold trh
                    rw [(F5 i hi).2 t ht, D4 _ (by omega), show 2976 + (51 + 8 * i + t) = 3027 + 8 * i + t by omega]; exact ((rp i hi).2 t ht).symm
                  · obtain ⟨v1, v2, v3⟩ := b12 i hi
                    exact ⟨by rw [(F5 i hi).1 1 (by decide)]; exact v1, by rw [(F5 i hi).1 4 (by decide)]; exact v2, fun t ht => by rw [(F5 i hi).2 t ht]; exact v3 t ht⟩
                  · rw [C3 8 0 (by decide)]
                    have q := f7 0 (by decide)
                    rw [show g8 8 0 = g8 (3 + 5) 0 from rfl, q]
                    exact b13
                  · rw [D4 7 (by decide)]; exact b14
                · exfalso
                  have := hS7.2.2.2
                  rw [l11 253 (by decide), l7 253 (by decide)] at t1
                  omega
            · omega
          · rcases h with ⟨q2, h⟩ | ⟨q2, g10, r11, k16, h⟩
            · exact absurd q1 q2
            · have e10 := (oI (t_refuse k16 rfl rfl)).2
              have e11 := (oI h).2
              obtain ⟨hF1, hF2, hF3⟩ := hF
              rcases m_court50 k15 q0 with ⟨q3, l1, l2, k18⟩ | ⟨q3, -⟩
              · obtain ⟨g12, r12, k21, he3⟩ := m_court117 k18 l2
                have e12 := (oI he3).2
                rcases m_taken k21 rfl rfl with ⟨t1, t2⟩ | ⟨t1, g13, r13, k22, t2⟩
                · omega
                · have e13 := (oI t2).2
                  have e14 := (oI (m_refuse k22 rfl rfl)).2
                  omega
              · omega
        · omega
      · omega
    · omega
theorem tt_court : TT sv L 273 := by
  intro c g g' al r r' n n' lf lf' hP _ har _ h0 hl h h0' hl' h'
  obtain ⟨hR, hI, hI', hf, hf', fd, fm, hpre⟩ := hP
  have hPRE := hpre rfl
  obtain ⟨a, rfl⟩ := al1 har
  have e := court_eq hPRE h h0 hl.1 h' h0' hl'.1
  refine ⟨fun hr => ?_, e⟩
  have hr := hr rfl
  obtain ⟨np, nq, ⟨w1, w2⟩, hC, w4, w5, w6⟩ := court_ok hPRE h h0 hl.1 h' h0' hl'.1 (by omega) hr
  obtain ⟨⟨x5, x6, -⟩, ⟨x0, x3, -⟩, ⟨y0, y1, -⟩, -⟩ := id hC
  have hG : GD g np nq 0 := by
    refine ⟨spd_rng hI', fun i hi => mil_rng hI' (by omega), fun i hi => ?_, fun k hk => absurd hk (Nat.not_lt_zero k), fun i k _ hk => absurd hk (Nat.not_lt_zero k)⟩
    obtain ⟨v1, v2, v3⟩ := w4 i hi
    obtain ⟨u1, u2, u3, u4⟩ := prs_rng hI' (i := i) (by omega)
    exact ⟨by omega, by omega, v2, ⟨(g (17 + 2 * i) 5).toNat, by omega, by omega⟩, ⟨v1.1, by omega⟩, fun t ht => ⟨u4 t ht, v3 t ht⟩⟩
  have sc : SCL g g' np nq 0 := SCL.of x5 x6 (by decide) (fun k j k1 k2 => by rw [hf' k (by omega)])
  have hX : RX 3 0 260 g' := by
    unfold RX
    rw [vc_3, vd_0]
    exact ⟨np, nq, 0, hC.mv sc (fun _ _ => rfl), hG.mv x5 x6 sc, Or.inl ⟨by rw [hf' 8 (by omega)]; exact w5, w6⟩⟩
  refine ⟨⟨⟨np, nq, ⟨x5, x6⟩, ⟨by rw [hf' 3 (by omega)]; exact x0, y0, by rw [hf' 3 (by omega)]; exact x3, y1⟩, fun i hi => ?_, fun i hi => ?_⟩, hX⟩, ?_⟩
  · rw [hf' (3 + 2) (by omega), Nat.zero_add]; exact w1 i hi
  · rw [hf' (3 + 14 + 2 * i) (by omega), Nat.zero_add]; exact w2 i hi
  have D : ∀ q ∈ ([(253, 39, 39), (254, 744, 2975), (255, 12, 47)] : List (Nat × Int × Int)), ∀ j : Nat, q.2.1 ≤ (j : Int) → (j : Int) ≤ q.2.2 → g' q.1 j = c q.1 j := fun q hq j j1 j2 => by
    rw [fm q hq j j1 j2]
    have : q.1 = 253 ∨ q.1 = 254 ∨ q.1 = 255 := by
      rcases List.mem_cons.mp hq with e | hq
      · exact Or.inl (by rw [e])
      · rcases List.mem_cons.mp hq with e | hq
        · exact Or.inr (Or.inl (by rw [e]))
        · exact Or.inr (Or.inr (by rw [List.mem_singleton.mp hq]))
    rw [hf q.1 (by omega) (by omega)]
  obtain ⟨m, m1, m2, m3, m4⟩ := hR.2
  have M : ∀ q ∈ xCD 127 ++ (xCD 169 ++ xCD 211), ∀ j : Nat, q.2.1 ≤ (j : Int) → (j : Int) ≤ q.2.2 → q.1 < 253 → g' q.1 j = c q.1 j := fun q hq j j1 j2 j3 => by
    rw [hf' q.1 j3]
    exact fd q (List.mem_append.mpr (Or.inr hq)) j j1 j2
  refine ⟨m, m1, by rw [hf' 0 (by omega), fd (0, 9, 9) (List.mem_cons_self) 9 (by decide) (by decide)]; exact m2, by rw [D (253, 39, 39) (by decide) 39 (by decide) (by decide)]; exact m3, fun i hi => ?_⟩
  exact mk_frx (by omega) M (fun j j1 j2 => D (254, 744, 2975) (by decide) j (show (744 : Int) ≤ (j : Int) by omega) (show (j : Int) ≤ 2975 by omega)) (fun j j1 j2 => D (255, 12, 47) (by decide) j (show (12 : Int) ≤ (j : Int) by omega) (show (j : Int) ≤ 47 by omega)) (m4 i hi)
end Ct2
