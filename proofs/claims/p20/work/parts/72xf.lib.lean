/-! loops, counts, small sets -/
section Lib
variable {sv : Nat → Int32} {L : Nat}
theorem zloop {y pc : Nat} {o : cg × Option cv} (Q : Nat → dlf → cg → Prop) (E : Prop) (hstep : ∀ (n i : Nat) (lf : dlf) (g : cg), Q i lf g → zr sv L (n + 1) y pc lf [] g o → E ∨ ∃ lf' g', Q (i + 1) lf' g' ∧ zr sv L n y pc lf' [] g' o) : ∀ (n i : Nat) (lf : dlf) (g : cg), Q i lf g → zr sv L n y pc lf [] g o → E
  | 0, _, _, _, _, h => (zr_0 h).elim
  | n + 1, i, lf, g, hQ, h => by
    rcases hstep n i lf g hQ h with e | ⟨lf', g', h1, h2⟩
    · exact e
    · exact zloop Q E hstep n (i + 1) lf' g' h1 h2
def cnt (f : Nat → Bool) : Nat → Nat
  | 0 => 0
  | n + 1 => cnt f n + (f n).toNat
theorem cnt_le {f : Nat → Bool} : ∀ n : Nat, cnt f n ≤ n
  | 0 => Nat.le_refl 0
  | n + 1 => by
    have h := cnt_le (f := f) n
    have := Bool.toNat_le (f n)
    show cnt f n + (f n).toNat ≤ n + 1
    omega
theorem cnt_congr {f f' : Nat → Bool} : ∀ n : Nat, (∀ i : Nat, i < n → f i = f' i) → cnt f n = cnt f' n
  | 0, _ => rfl
  | n + 1, h => by
    show cnt f n + (f n).toNat = cnt f' n + (f' n).toNat
    rw [cnt_congr n (fun i hi => h i (by omega)), h n (by omega)]
theorem cnt_split {f e : Nat → Bool} : ∀ n : Nat, cnt f n = cnt (fun i => f i && e i) n + cnt (fun i => f i && !e i) n
  | 0 => rfl
  | n + 1 => by
    show cnt f n + (f n).toNat = cnt (fun i => f i && e i) n + (f n && e n).toNat + (cnt (fun i => f i && !e i) n + (f n && !e n).toNat)
    rw [cnt_split (f := f) (e := e) n]
    have : (f n).toNat = (f n && e n).toNat + (f n && !e n).toNat := by cases f n <;> cases e n <;> rfl
    omega
theorem cnt_pos {f : Nat → Bool} : ∀ n : Nat, 0 < cnt f n ↔ ∃ i : Nat, i < n ∧ f i = true
  | 0 => ⟨fun h => absurd h (Nat.lt_irrefl 0), fun ⟨i, hi, _⟩ => absurd hi (Nat.not_lt_zero i)⟩
  | n + 1 => by
    have ih := cnt_pos (f := f) n
    show 0 < cnt f n + (f n).toNat ↔ _
    constructor
    · intro h
      by_cases q : 0 < cnt f n
      · obtain ⟨i, h1, h2⟩ := ih.mp q
        exact ⟨i, by omega, h2⟩
      · refine ⟨n, by omega, ?_⟩
        cases hb : f n with
        | true => rfl
        | false => rw [hb] at h; have : (false : Bool).toNat = 0 := rfl; omega
    · intro ⟨i, h1, h2⟩
      by_cases q : i = n
      · rw [q] at h2; rw [h2]; have : (true : Bool).toNat = 1 := rfl; omega
      · have := ih.mpr ⟨i, by omega, h2⟩; omega
theorem cnt_s {f : Nat → Bool} {n : Nat} (h : f n = true) : cnt f (n + 1) = cnt f n + 1 := by show cnt f n + (f n).toNat = _; rw [h]; rfl
theorem cnt_n {f : Nat → Bool} {n : Nat} (h : f n = false) : cnt f (n + 1) = cnt f n := by show cnt f n + (f n).toNat = _; rw [h]; rfl
/-! sets of at most six -/
theorem bor6 : ∀ m : Nat, m < 64 → ∀ w : Nat, w < 6 → bor (m : Int) (bsl 1 (w : Int)) = ((m ||| 2 ^ w : Nat) : Int) ∧ m ||| 2 ^ w < 64 := by decide +kernel
theorem bor0 : ∀ m : Nat, m < 64 → bor (m : Int) 0 = (m : Int) := by decide +kernel
theorem tb6 : ∀ m : Nat, m < 64 → ∀ w : Nat, w < 6 → ∀ v : Nat, v < 6 → (m ||| 2 ^ w).testBit v = (m.testBit v || decide (v = w)) := by decide +kernel
def pc6 (m : Nat) : Nat := (m.testBit 0).toNat + (m.testBit 1).toNat + (m.testBit 2).toNat + (m.testBit 3).toNat + (m.testBit 4).toNat + (m.testBit 5).toNat
theorem pc6_set : ∀ m : Nat, m < 64 → ∀ w : Nat, w < 6 → m.testBit w = false → pc6 (m ||| 2 ^ w) = pc6 m + 1 := by decide +kernel
theorem pc6_low : ∀ m : Nat, m < 64 → m ≠ 0 → ban (m : Int) (w32 ((m : Int) - 1)) = ((m &&& (m - 1) : Nat) : Int) ∧ m &&& (m - 1) < 64 ∧ pc6 m = pc6 (m &&& (m - 1)) + 1 := by decide +kernel
theorem pc6_two : ∀ m : Nat, m < 32 → (1 < pc6 m ↔ ∃ a : Nat, a < 5 ∧ ∃ b : Nat, b < 5 ∧ a ≠ b ∧ m.testBit a = true ∧ m.testBit b = true) := by decide +kernel
theorem pc6_le : ∀ m : Nat, m < 64 → pc6 m ≤ 6 := by decide +kernel
theorem lt32 : ∀ m : Nat, m < 32 → ∀ w : Nat, w < 5 → m ||| 2 ^ w < 32 := by decide +kernel
theorem isb6 : ∀ m : Nat, m < 64 → ∀ w : Nat, w < 6 → (ban (bsr (m : Int) (w : Int)) 1 = 1 ↔ m.testBit w = true) ∧ (ban (bsr (m : Int) (w : Int)) 1 = 0 ↔ m.testBit w = false) := by decide +kernel
theorem m_bits_ok {n : Nat} {lf : dlf} {g : cg} {o : cg × Option cv} {m : Nat} (hm : m < 64) (h : zr sv L n 223 0 lf [] g o) (h0 : lf 0 = (0, (m : Int))) : o = (g, some (0, (pc6 m : Int))) := by
  obtain ⟨lf1, a1, a2, h⟩ := m_bits0 h h0
  refine zloop (fun _ lf g' => g' = g ∧ ∃ a x : Nat, lf 1 = (0, (a : Int)) ∧ lf 2 = (0, (x : Int)) ∧ x < 64 ∧ a + pc6 x = pc6 m) _ ?_ n 0 lf1 g ⟨rfl, 0, m, a1, a2, hm, Nat.zero_add _⟩ h
  intro n i lf g' ⟨e, a, x, b1, b2, b3, b4⟩ hzi
  subst e
  have h := hzi
  have hle := pc6_le m hm
  rcases m_bits4 h b1 b2 with ⟨c1, c2⟩ | ⟨c1, lf2, c2, c3, c4⟩
  · have : x = 0 := by omega
    subst this
    have : pc6 0 = 0 := rfl
    rw [this] at b4
    exact Or.inl (by rw [c2, show a = pc6 m by omega])
  · obtain ⟨d1, d2, d3⟩ := pc6_low x b3 (by omega)
    rw [d1] at c3
    rw [w32_id (by omega) (by omega)] at c2
    exact Or.inr ⟨lf2, _, ⟨rfl, a + 1, _, c2, c3, d2, by omega⟩, c4⟩
end Lib
