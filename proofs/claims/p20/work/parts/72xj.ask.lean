/-! the WITNESS is asked: the class -/
def oth (c : cg) (W P T k : Nat) : Bool := isof c P T k && decide (ohw c k ≠ W)
def alkx (c : cg) (W P Q T k : Nat) : Bool := isof c P T k && (decide (ohw c k ≠ W) && decide (ohq c k = Q))
def ech (c : cg) (W P Q T k : Nat) : Bool := isof c P T k && (decide (ohw c k ≠ W ∧ ohq c k = Q) && decide ((ohw c k : Int) = c (17 + 2 * W) 4))
def lip (c : cg) (P k : Nat) : Bool := decide (ohs c k = 0 ∧ ohp c k = P ∧ trh c (ohp c k) (oht c k) ≠ (ohq c k : Int))
theorem oth_i {c : cg} {W P T k : Nat} : oth c W P T k = true ↔ (ohs c k = 0 ∧ ohp c k = P ∧ oht c k = T) ∧ ohw c k ≠ W := by
  unfold oth
  rw [Bool.and_eq_true, isof_i, decide_eq_true_iff]
theorem alkx_i {c : cg} {W P Q T k : Nat} : alkx c W P Q T k = true ↔ (ohs c k = 0 ∧ ohp c k = P ∧ oht c k = T) ∧ ohw c k ≠ W ∧ ohq c k = Q := by
  unfold alkx
  rw [Bool.and_eq_true, Bool.and_eq_true, isof_i, decide_eq_true_iff, decide_eq_true_iff]
theorem ech_i {c : cg} {W P Q T k : Nat} : ech c W P Q T k = true ↔ (ohs c k = 0 ∧ ohp c k = P ∧ oht c k = T) ∧ (ohw c k ≠ W ∧ ohq c k = Q) ∧ (ohw c k : Int) = c (17 + 2 * W) 4 := by
  unfold ech
  rw [Bool.and_eq_true, Bool.and_eq_true, isof_i, decide_eq_true_iff, decide_eq_true_iff]
theorem lip_i {c : cg} {P k : Nat} : lip c P k = true ↔ ohs c k = 0 ∧ ohp c k = P ∧ trh c (ohp c k) (oht c k) ≠ (ohq c k : Int) := decide_eq_true_iff
theorem cnt_p1 {f : Nat → Bool} {k : Nat} : 0 < cnt f (k + 1) ↔ 0 < cnt f k ∨ f k = true := by
  cases hb : f k with
  | true => rw [cnt_s hb]; exact ⟨fun _ => Or.inr rfl, fun _ => Nat.succ_pos _⟩
  | false => rw [cnt_n hb]; exact ⟨Or.inl, fun h => h.resolve_right (fun e => by cases e)⟩
/-- two PLACES of one HOUR, among the first k -/
def dbk (c : cg) (P k : Nat) : Prop := ∃ T i j : Nat, i < k ∧ j < k ∧ isof c P T i = true ∧ isof c P T j = true ∧ ohq c i ≠ ohq c j
/-- but for what the one who asks keeps -/
def AFR (S : Nat) (c g : cg) : Prop := ∀ i j : Nat, i ≠ S → i ≠ S + 1 → i ≠ S + 2 → g i j = c i j
def AS (S : Nat) (c : cg) (W P k : Nat) (g : cg) : Prop := AFR S c g ∧ (g S 1 = (W : Int) ∧ g S 2 = (P : Int)) ∧ (∃ m : Nat, g S 3 = (m : Int) ∧ m < 2 ^ 8 ∧ ∀ T : Nat, T < 8 → (m.testBit T = true ↔ 0 < cnt (spk c W P T) k)) ∧ (∀ T : Nat, T < 8 → g (S + 1) T = (cnt (oth c W P T) k : Int)) ∧ (∀ Q : Nat, Q < 5 → ∀ T : Nat, T < 8 → g (S + 2) (Q + 5 * T) = (cnt (alkx c W P Q T) k : Int)) ∧ (∃ m : Nat, g S 8 = (m : Int) ∧ m < 2 ^ 40 ∧ ∀ Q : Nat, Q < 5 → ∀ T : Nat, T < 8 → (m.testBit (Q + 5 * T) = true ↔ 0 < cnt (ech c W P Q T) k)) ∧ ((g S 4 = 0 ∧ ¬ dbk c P k) ∨ (g S 4 = 1 ∧ dbk c P k))
def ASL (c : cg) (P k : Nat) (lf : dlf) : Prop := (∃ m : Nat, lf 3 = (2, (m : Int)) ∧ m < 2 ^ 40 ∧ ∀ Q : Nat, Q < 5 → ∀ T : Nat, T < 8 → (m.testBit (Q + 5 * T) = true ↔ 0 < cnt (says c P Q T) k)) ∧ ∃ m : Nat, lf 5 = (0, (m : Int)) ∧ wset c (lip c P) k m
theorem OHC.fr {c g : cg} {k w p q t : Nat} {f s b : Int} (h : OHC c k w p q t f s b) (e : ∀ j : Nat, g (29 + k) j = c (29 + k) j) : OHC g k w p q t f s b := by
  unfold OHC at *
  rw [e, e, e, e, e, e, e]
  exact h
theorem lt40 {a : Nat} (h : a < 2 ^ 40) : a < 2 ^ 62 := Nat.lt_of_lt_of_le h (by decide)
theorem cnt_same {f : Nat → Bool} {k : Nat} {a : Int} (h : a = (cnt f k : Int)) (hf : f k = false) : a = (cnt f (k + 1) : Int) := by rw [cnt_n hf]; exact h
theorem iff_same {f : Nat → Bool} {k : Nat} {p : Prop} (h : p ↔ 0 < cnt f k) (hf : f k = false) : p ↔ 0 < cnt f (k + 1) := by rw [cnt_n hf]; exact h
section Ask
variable {sv : Nat → Int32} {L : Nat} {n : Nat} {lf : dlf} {c c' g g1 : cg} {o : cg × Option cv} {N W P k : Nat}
/-- what is no OATH of this PERSON that STANDS -/
theorem as_skip {S : Nat} (h : AS S c W P k g) (hk : ohs c k ≠ 0 ∨ ohp c k ≠ P) : AS S c W P (k + 1) g := by
  obtain ⟨a1, a2, ⟨m, b1, b2, b3⟩, a4, a5, ⟨e, d1, d2, d3⟩, a7⟩ := h
  refine ⟨a1, a2, ⟨m, b1, b2, fun T hT => iff_same (b3 T hT) (bf (fun q => by have := spk_i.mp q; omega))⟩, fun T hT => cnt_same (a4 T hT) (bf (fun q => by have := oth_i.mp q; omega)), fun Q hQ T hT => cnt_same (a5 Q hQ T hT) (bf (fun q => by have := alkx_i.mp q; omega)), ⟨e, d1, d2, fun Q hQ T hT => iff_same (d3 Q hQ T hT) (bf (fun q => by have := ech_i.mp q; omega))⟩, ?_⟩
  have hky : dbk c P (k + 1) ↔ dbk c P k := by
    constructor
    · intro ⟨T, i, j, i1, j1, i2, j2, n⟩
      have x := isof_i.mp i2
      have y := isof_i.mp j2
      have ni : i ≠ k := fun q => by rw [q] at x; omega
      have nj : j ≠ k := fun q => by rw [q] at y; omega
      exact ⟨T, i, j, by omega, by omega, i2, j2, n⟩
    · intro ⟨T, i, j, i1, j1, r⟩
      exact ⟨T, i, j, by omega, by omega, r⟩
  rw [hky]
  exact a7
theorem asl_skip (h : ASL c P k lf) {lf' : dlf} (e3 : lf' 3 = lf 3) (e5 : lf' 5 = lf 5) (hk : ohs c k ≠ 0 ∨ ohp c k ≠ P) : ASL c P (k + 1) lf' := by
  obtain ⟨⟨m, b1, b2, b3⟩, m', d1, d2⟩ := h
  exact ⟨⟨m, e3.trans b1, b2, fun Q hQ T hT => iff_same (b3 Q hQ T hT) (bf (fun q => by have := says_i.mp q; omega))⟩, m', e5.trans d1, wset_n d2 (bf (fun q => by have := lip_i.mp q; omega))⟩
/-- it is heard -/
theorem as_hear {D : Int} (h : AS 92 c W P k g) (hV : OHV c N) (hN : N ≤ 16) (hk : k < N) (hW : W ≤ 5) (hs : ohs c k = 0) (hp : ohp c k = P) (hD : (D = 0 ∧ ¬ dbk c P (k + 1)) ∨ (D = 1 ∧ dbk c P (k + 1))) (hh : zr sv L n 93 0 (darg 0 [(4, 92), (4, 29 + ((k : Int)))]) [] (cup g 92 4 D) (g1, none)) : AS 92 c W P (k + 1) g1 := by
  obtain ⟨a1, ⟨a2, a3⟩, ⟨m, b1, b2, b3⟩, a4, a5, ⟨e, d1, d2, d3⟩, -⟩ := h
  obtain ⟨v1, v2, v3, v4, v5⟩ := hV k hk
  have hx := a4 (oht c k) (by omega)
  have hy := a5 (ohq c k) (by omega) (oht c k) (by omega)
  have lx := cnt_le (f := oth c W P (oht c k)) k
  have ly := cnt_le (f := alkx c W P (ohq c k) (oht c k)) k
  have st : isof c P (oht c k) k = true := isof_i.mpr ⟨hs, hp, rfl⟩
  have G : ∀ i j : Nat, i ≠ 92 → cup g 92 4 D i j = g i j := fun i j hi => cup_ne (fun q => hi q.1)
  have hhh := t_hear_92 (x := cnt (oth c W P (oht c k)) k) (y := cnt (alkx c W P (ohq c k) (oht c k)) k) (tw := c (17 + 2 * W) 4) hW (show P ≤ 5 by omega) v2 v3 v4 v5 (by omega) (by omega) (by omega) (by rw [cup_ne (by omega)]; exact a2) (by rw [cup_ne (by omega)]; exact a3) (v1.fr (fun j => by rw [G _ _ (by omega)]; exact a1 _ _ (by omega) (by omega) (by omega))) (by rw [G _ _ (by omega)]; exact a1 _ _ (by omega) (by omega) (by omega)) (by rw [G _ _ (by omega)]; exact hx) (by rw [G _ _ (by omega)]; exact hy) hh rfl rfl
  rcases hhh with ⟨⟨z1, z2⟩, q⟩ | ⟨⟨z1, z2⟩, q⟩ | ⟨z, q⟩
  · have q := oV q
    have nw : ohw c k ≠ W := nt_ne z1
    refine ⟨fun i j i1 i2 i3 => by rw [q, cup_ne (by omega), cup_ne (by omega), G _ _ i1]; exact a1 i j i1 i2 i3, ⟨by rw [q, cup_ne (by omega), cup_ne (by omega), cup_ne (by omega)]; exact a2, by rw [q, cup_ne (by omega), cup_ne (by omega), cup_ne (by omega)]; exact a3⟩, ⟨m, by rw [q, cup_ne (by omega), cup_ne (by omega), cup_ne (by omega)]; exact b1, b2, fun T hT => iff_same (b3 T hT) (bf (fun q => by have := spk_i.mp q; omega))⟩, fun T hT => ?_, fun Q hQ T hT => ?_, ⟨e, by rw [q, cup_ne (by omega), cup_ne (by omega), cup_ne (by omega)]; exact d1, d2, fun Q hQ T hT => iff_same (d3 Q hQ T hT) (bf (fun q => by have := (ech_i.mp q).2.2; omega))⟩, ?_⟩
    · rw [q, cup_ne (by omega)]
      by_cases e : T = oht c k
      · rw [e, cup_at, cnt_s (oth_i.mpr ⟨⟨hs, hp, rfl⟩, nw⟩)]; omega
      · rw [cup_ne (by omega), G _ _ (by omega)]
        exact cnt_same (a4 T hT) (bf (fun q => by have := (oth_i.mp q).1.2.2; omega))
    · rw [q]
      by_cases e : Q = ohq c k ∧ T = oht c k
      · rw [e.1, e.2, cup_at, cnt_s (alkx_i.mpr ⟨⟨hs, hp, rfl⟩, nw, rfl⟩)]; omega
      · rw [cup_ne (by omega), cup_ne (by omega), G _ _ (by omega)]
        exact cnt_same (a5 Q hQ T hT) (bf (fun q => by have := alkx_i.mp q; omega))
    · rw [q, cup_ne (by omega), cup_ne (by omega), cup_at]; exact hD
  · have q := oV q
    have nw : ohw c k ≠ W := nt_ne z1
    refine ⟨fun i j i1 i2 i3 => by rw [q, cup_ne (by omega), cup_ne (by omega), cup_ne (by omega), G _ _ i1]; exact a1 i j i1 i2 i3, ⟨by rw [q, cup_ne (by omega), cup_ne (by omega), cup_ne (by omega), cup_ne (by omega)]; exact a2, by rw [q, cup_ne (by omega), cup_ne (by omega), cup_ne (by omega), cup_ne (by omega)]; exact a3⟩, ⟨m, by rw [q, cup_ne (by omega), cup_ne (by omega), cup_ne (by omega), cup_ne (by omega)]; exact b1, b2, fun T hT => iff_same (b3 T hT) (bf (fun q => by have := spk_i.mp q; omega))⟩, fun T hT => ?_, fun Q hQ T hT => ?_, ⟨e ||| 2 ^ (ohq c k + 5 * oht c k), ?_, tblt d2 (by omega), fun Q hQ T hT => ?_⟩, ?_⟩
    · rw [q, cup_ne (by omega), cup_ne (by omega)]
      by_cases e : T = oht c k
      · rw [e, cup_at, cnt_s (oth_i.mpr ⟨⟨hs, hp, rfl⟩, nw⟩)]; omega
      · rw [cup_ne (by omega), G _ _ (by omega)]
        exact cnt_same (a4 T hT) (bf (fun q => by have := (oth_i.mp q).1.2.2; omega))
    · rw [q, cup_ne (by omega)]
      by_cases e : Q = ohq c k ∧ T = oht c k
      · rw [e.1, e.2, cup_at, cnt_s (alkx_i.mpr ⟨⟨hs, hp, rfl⟩, nw, rfl⟩)]; omega
      · rw [cup_ne (by omega), cup_ne (by omega), G _ _ (by omega)]
        exact cnt_same (a5 Q hQ T hT) (bf (fun q => by have := alkx_i.mp q; omega))
    · rw [q, cup_at, cup_ne (by omega), d1, show ((ohq c k : Int) + 5 * (oht c k : Int)) = ((ohq c k + 5 * oht c k : Nat) : Int) by omega, lsl1 _ (by omega), lor_n (lt40 d2) (lt40 (Nat.pow_lt_pow_right (by decide) (by omega)))]
    · rw [tbor, Bool.or_eq_true, d3 Q hQ T hT, cnt_p1, decide_eq_true_iff]
      constructor
      · rintro (x | x)
        · exact Or.inl x
        · exact Or.inr (ech_i.mpr ⟨⟨hs, hp, by omega⟩, ⟨nw, by omega⟩, z2⟩)
      · rintro (x | x)
        · exact Or.inl x
        · have := ech_i.mp x
          exact Or.inr (by omega)
    · rw [q, cup_ne (by omega), cup_ne (by omega), cup_ne (by omega), cup_at]; exact hD
  · have q := oV q
    have nw : ohw c k = W := by omega
    refine ⟨fun i j i1 i2 i3 => by rw [q, cup_ne (by omega), G _ _ i1]; exact a1 i j i1 i2 i3, ⟨by rw [q, cup_ne (by omega), cup_ne (by omega)]; exact a2, by rw [q, cup_ne (by omega), cup_ne (by omega)]; exact a3⟩, ⟨m ||| 2 ^ oht c k, ?_, tblt b2 (by omega), fun T hT => ?_⟩, fun T hT => ?_, fun Q hQ T hT => ?_, ⟨e, by rw [q, cup_ne (by omega), cup_ne (by omega)]; exact d1, d2, fun Q hQ T hT => iff_same (d3 Q hQ T hT) (bf (fun q => by have := (ech_i.mp q).2.1; omega))⟩, ?_⟩
    · have p8 : (2 : Nat) ^ 8 ≤ 2 ^ 30 := by decide
      rw [q, cup_at, cup_ne (by omega), b1, bsl1 _ (by omega), bor_n (Nat.lt_of_lt_of_le b2 p8) (Nat.pow_lt_pow_right (by decide) (by omega))]
    · rw [tbor, Bool.or_eq_true, b3 T hT, cnt_p1, decide_eq_true_iff]
      constructor
      · rintro (x | x)
        · exact Or.inl x
        · exact Or.inr (spk_i.mpr ⟨hs, hp, x, nw⟩)
      · rintro (x | x)
        · exact Or.inl x
        · exact Or.inr (spk_i.mp x).2.2.1
    · rw [q, cup_ne (by omega), G _ _ (by omega)]
      exact cnt_same (a4 T hT) (bf (fun q => by have := (oth_i.mp q).2; omega))
    · rw [q, cup_ne (by omega), G _ _ (by omega)]
      exact cnt_same (a5 Q hQ T hT) (bf (fun q => by have := (alkx_i.mp q).2.1; omega))
    · rw [q, cup_ne (by omega), cup_at]; exact hD
end Ask
theorem and6 : ∀ a : Nat, a < 64 → ∀ b : Nat, b < 64 → (ban (a : Int) (b : Int) ≠ 0 ↔ ∃ v : Nat, v < 6 ∧ a.testBit v = true ∧ b.testBit v = true) := by decide +kernel
def FR6 (c : cg) (nq : Nat) : Prop := ∀ i : Nat, i < nq → ∃ m : Nat, m < 64 ∧ c (17 + 2 * i) 5 = (m : Int)
def ASD (c c' : cg) (N W P : Nat) : Prop := AS 92 c W P N c' ∧ ((c' 92 5 = 0 ∧ ¬ 0 < cnt (lfr c W P) N) ∨ (c' 92 5 = 1 ∧ 0 < cnt (lfr c W P) N))
section Ask2
variable {sv : Nat → Int32} {L : Nat} {n : Nat} {lf : dlf} {c c' g g1 : cg} {o : cg × Option cv} {N W P k nq : Nat}
theorem dbk_s (hs : ohs c k = 0) (hp : ohp c k = P) : dbk c P (k + 1) ↔ dbk c P k ∨ ∃ i : Nat, i < k ∧ isof c P (oht c k) i = true ∧ ohq c i ≠ ohq c k := by
  constructor
  · intro ⟨T, i, j, i1, j1, i2, j2, hn⟩
    have x := isof_i.mp i2
    have y := isof_i.mp j2
    by_cases qi : i = k
    · have nj : j ≠ k := fun q => hn (by rw [qi, q])
      rw [qi] at x hn
      exact Or.inr ⟨j, by omega, by rw [x.2.2]; exact j2, fun e => hn e.symm⟩
    · by_cases qj : j = k
      · rw [qj] at y hn
        exact Or.inr ⟨i, by omega, by rw [y.2.2]; exact i2, hn⟩
      · exact Or.inl ⟨T, i, j, by omega, by omega, i2, j2, hn⟩
  · rintro (⟨T, i, j, i1, j1, r⟩ | ⟨i, i1, i2, i3⟩)
    · exact ⟨T, i, j, by omega, by omega, r⟩
    · exact ⟨oht c k, i, k, by omega, by omega, i2, isof_i.mpr ⟨hs, hp, rfl⟩, i3⟩
/-- what was said of that HOUR, of another PLACE -/
theorem said_o {m : Nat} (hV : OHV c N) (hk : k < N) (hm : m < 2 ^ 40) (hb : ∀ Q : Nat, Q < 5 → ∀ T : Nat, T < 8 → (m.testBit (Q + 5 * T) = true ↔ 0 < cnt (says c P Q T) k)) : ((m >>> (5 * oht c k)) % 32 ≠ 0 ∧ (m >>> (5 * oht c k)) % 32 ≠ 2 ^ ohq c k) ↔ ∃ i : Nat, i < k ∧ isof c P (oht c k) i = true ∧ ohq c i ≠ ohq c k := by
  obtain ⟨v1, v2, v3, v4, v5⟩ := hV k hk
  rw [two31 _ (Nat.mod_lt _ (by decide)) _ (by omega)]
  constructor
  · intro ⟨a, a1, a2, a3⟩
    rw [t31 a1, hb a a1 _ (by omega), cnt_pos] at a3
    obtain ⟨i, i1, i2⟩ := a3
    have x := says_i.mp i2
    exact ⟨i, i1, isof_i.mpr ⟨x.1, x.2.1, x.2.2.1⟩, by omega⟩
  · intro ⟨i, i1, i2, i3⟩
    obtain ⟨-, -, -, u4, -⟩ := hV i (by omega)
    have x := isof_i.mp i2
    refine ⟨ohq c i, by omega, i3, ?_⟩
    rw [t31 (by omega), hb _ (by omega) _ (by omega), cnt_pos]
    exact ⟨i, i1, says_i.mpr ⟨x.1, x.2.1, x.2.2, rfl⟩⟩
theorem ask_ok (hW : W ≤ 5) (hP : P ≤ 5) (hN16 : N ≤ 16) (hN : c 3 9 = (N : Int)) (hV : OHV c N) (hWq : W < nq) (hF : FR6 c nq) (h : zr sv L n 91 0 lf [] c o) (h0 : lf 0 = (4, 92)) (h1 : lf 1 = (0, (W : Int))) (h2 : lf 2 = (0, (P : Int))) : ∃ c', o = (c', none) ∧ ASD c c' N W P := by
  obtain ⟨lf1, a0, a3, h⟩ := t_ask0_92 hW hP h h0 h1 h2
  have s27 : ∃ n lf g, lf 0 = (4, 92) ∧ lf 3 = (0, 0) ∧ (AFR 92 c g ∧ g 92 1 = (W : Int) ∧ g 92 2 = (P : Int) ∧ g 92 3 = 0 ∧ g 92 8 = 0 ∧ g 92 4 = 0 ∧ ∀ T : Nat, T < 8 → g 93 T = 0) ∧ zr sv L n 91 48 lf [] g o := by
    refine zloop (fun k lf g => lf 0 = (4, 92) ∧ lf 3 = (0, (k : Int)) ∧ k ≤ 8 ∧ AFR 92 c g ∧ g 92 1 = (W : Int) ∧ g 92 2 = (P : Int) ∧ g 92 3 = 0 ∧ g 92 8 = 0 ∧ g 92 4 = 0 ∧ ∀ T : Nat, T < k → g 93 T = 0) _ ?_ n 0 lf1 _ ⟨a0, a3, by decide, fun i j i1 _ _ => by rw [cup_ne (by omega), cup_ne (by omega), cup_ne (by omega), cup_ne (by omega), cup_ne (by omega)], by rw [cup_ne (by omega), cup_ne (by omega), cup_ne (by omega), cup_ne (by omega), cup_at], by rw [cup_ne (by omega), cup_ne (by omega), cup_ne (by omega), cup_at], by rw [cup_ne (by omega), cup_ne (by omega), cup_at], by rw [cup_ne (by omega), cup_at], by rw [cup_at], fun T hT => absurd hT (Nat.not_lt_zero T)⟩ h
    intro n k lf g ⟨b0, b3, bk, b4, b5, b6, b7, b8, b9, b10⟩ h
    by_cases hk : k < 8
    · obtain ⟨lf2, y0, y3, h⟩ := t_ask27s_92 (by omega) h b0 b3
      exact Or.inr ⟨lf2, _, ⟨y0, by rw [y3]; exact congrArg _ (Int.add_comm _ _), by omega, fun i j i1 i2 i3 => by rw [cup_ne (by omega)]; exact b4 i j i1 i2 i3, by rw [cup_ne (by omega)]; exact b5, by rw [cup_ne (by omega)]; exact b6, by rw [cup_ne (by omega)]; exact b7, by rw [cup_ne (by omega)]; exact b8, by rw [cup_ne (by omega)]; exact b9, fun T hT => by
        by_cases e : T = k
        · rw [e, cup_at]
        · rw [cup_ne (by omega)]; exact b10 T (by omega)⟩, h⟩
    · have : k = 8 := by omega
      subst this
      obtain ⟨lf2, y0, y3, h⟩ := t_ask27e_92 h b0 b3
      exact Or.inl ⟨n, lf2, g, y0, y3, ⟨b4, b5, b6, b7, b8, b9, b10⟩, h⟩
  obtain ⟨n, lf2, g, c0, c3, hg, h⟩ := s27
  have s48 : ∃ n lf g, lf 0 = (4, 92) ∧ lf 3 = (2, 0) ∧ lf 5 = (0, 0) ∧ lf 6 = (0, 0) ∧ (AFR 92 c g ∧ g 92 1 = (W : Int) ∧ g 92 2 = (P : Int) ∧ g 92 3 = 0 ∧ g 92 8 = 0 ∧ g 92 4 = 0 ∧ (∀ T : Nat, T < 8 → g 93 T = 0) ∧ ∀ T : Nat, T < 40 → g 94 T = 0) ∧ zr sv L n 91 75 lf [] g o := by
    refine zloop (fun k lf g => lf 0 = (4, 92) ∧ lf 3 = (0, (k : Int)) ∧ k ≤ 40 ∧ AFR 92 c g ∧ g 92 1 = (W : Int) ∧ g 92 2 = (P : Int) ∧ g 92 3 = 0 ∧ g 92 8 = 0 ∧ g 92 4 = 0 ∧ (∀ T : Nat, T < 8 → g 93 T = 0) ∧ ∀ T : Nat, T < k → g 94 T = 0) _ ?_ n 0 lf2 g ⟨c0, c3, by decide, hg.1, hg.2.1, hg.2.2.1, hg.2.2.2.1, hg.2.2.2.2.1, hg.2.2.2.2.2.1, hg.2.2.2.2.2.2, fun T hT => absurd hT (Nat.not_lt_zero T)⟩ h
    intro n k lf g ⟨b0, b3, bk, b4, b5, b6, b7, b8, b9, b10, b11⟩ h
    by_cases hk : k < 40
    · obtain ⟨lf2, y0, y3, h⟩ := t_ask48s_92 (by omega) h b0 b3
      exact Or.inr ⟨lf2, _, ⟨y0, by rw [y3]; exact congrArg _ (Int.add_comm _ _), by omega, fun i j i1 i2 i3 => by rw [cup_ne (by omega)]; exact b4 i j i1 i2 i3, by rw [cup_ne (by omega)]; exact b5, by rw [cup_ne (by omega)]; exact b6, by rw [cup_ne (by omega)]; exact b7, by rw [cup_ne (by omega)]; exact b8, by rw [cup_ne (by omega)]; exact b9, fun T hT => by rw [cup_ne (by omega)]; exact b10 T hT, fun T hT => by
        by_cases e : T = k
        · rw [e, cup_at]
        · rw [cup_ne (by omega)]; exact b11 T (by omega)⟩, h⟩
    · have : k = 40 := by omega
      subst this
      obtain ⟨lf2, y0, y3, y5, y6, h⟩ := t_ask48e_92 h b0 b3
      exact Or.inl ⟨n, lf2, g, y0, y3, y5, y6, ⟨b4, b5, b6, b7, b8, b9, b10, b11⟩, h⟩
  obtain ⟨n, lf3, g, d0, d3, d5, d6, ⟨e1, e2, e3, e4, e5, e6, e7, e8⟩, h⟩ := s48
  have z0 : ∀ {a : Nat}, (0 : Nat).testBit a = true ↔ 0 < (0 : Nat) := fun {a} => by rw [Nat.zero_testBit]; exact ⟨fun q => (by cases q), fun q => absurd q (Nat.lt_irrefl 0)⟩
  refine zloop (fun k lf g => k ≤ N ∧ lf 0 = (4, 92) ∧ lf 6 = (0, (k : Int)) ∧ AS 92 c W P k g ∧ ASL c P k lf) _ ?_ n 0 lf3 g ⟨by omega, d0, d6, ⟨e1, ⟨e2, e3⟩, ⟨0, e4, by decide, fun _ _ => z0⟩, e7, fun Q hQ T hT => e8 _ (by omega), ⟨0, e5, by decide, fun _ _ _ _ => z0⟩, Or.inl ⟨e6, fun ⟨_, i, _, hi, _⟩ => absurd hi (Nat.not_lt_zero i)⟩⟩, ⟨0, d3, by decide, fun _ _ _ _ => z0⟩, 0, d5, wset0⟩ h
  intro n k lf g ⟨hk, b0, b6, hA, hB⟩ h
  have gN : g 3 9 = (N : Int) := by rw [hA.1 3 9 (by decide) (by decide) (by decide)]; exact hN
  by_cases hlt : k < N
  · obtain ⟨v1, v2, v3, v4, v5⟩ := hV k hlt
    have hA' := hA
    have hB' := hB
    obtain ⟨a1, ⟨a2, a3⟩, -, -, -, -, a7⟩ := hA
    obtain ⟨⟨m, x1, x2, x3⟩, l, y1, y2⟩ := hB
    have hnxt : ∀ {D : Int} {lf' : dlf} {g1 : cg} {l' : Nat}, ohs c k = 0 → ohp c k = P → ((D = 0 ∧ ¬ dbk c P (k + 1)) ∨ (D = 1 ∧ dbk c P (k + 1))) → wset c (lip c P) (k + 1) l' → zr sv L n 93 0 (darg 0 [(4, 92), (4, 29 + ((k : Int)))]) [] (cup g 92 4 D) (g1, none) → lf' 0 = (4, 92) → lf' 3 = (2, lor (m : Int) (lsl 1 ((ohq c k : Int) + 5 * (oht c k : Int)))) → lf' 5 = (0, (l' : Int)) → lf' 6 = (0, 1 + (k : Int)) → (k + 1 ≤ N ∧ lf' 0 = (4, 92) ∧ lf' 6 = (0, ((k + 1 : Nat) : Int)) ∧ AS 92 c W P (k + 1) g1 ∧ ASL c P (k + 1) lf') := by
      intro D lf' g1 l' hs hp hD hl' hh w0 w3 w5 w6
      refine ⟨hlt, w0, by rw [w6]; exact congrArg _ (Int.add_comm _ _), as_hear hA' hV hN16 hlt hW hs hp hD hh, ⟨m ||| 2 ^ (ohq c k + 5 * oht c k), ?_, tblt x2 (by omega), fun Q hQ T hT => ?_⟩, l', w5, hl'⟩
      · rw [w3, show ((ohq c k : Int) + 5 * (oht c k : Int)) = ((ohq c k + 5 * oht c k : Nat) : Int) by omega, lsl1 _ (by omega), lor_n (lt40 x2) (lt40 (Nat.pow_lt_pow_right (by decide) (by omega)))]
      · rw [tbor, Bool.or_eq_true, x3 Q hQ T hT, cnt_p1, decide_eq_true_iff]
        constructor
        · rintro (x | x)
          · exact Or.inl x
          · exact Or.inr (says_i.mpr ⟨hs, hp, by omega, by omega⟩)
        · rintro (x | x)
          · exact Or.inl x
          · have := says_i.mp x
            exact Or.inr (by omega)
    have hX := l31 (t := oht c k) (lt40 x2) (by omega)
    have hsd := said_o hV hlt x2 x3
    have e2 := lsl1 (ohq c k) (by omega)
    have stp := t_ask75s_92 hW hP v2 v3 v4 v5 (by omega) hN16 gN a2 a3 (v1.fr (fun j => a1 _ _ (by omega) (by omega) (by omega))) (show g (18 + 2 * ohp c k) (oht c k) = trh c (ohp c k) (oht c k) from a1 _ _ (by omega) (by omega) (by omega)) hlt h b0 x1 y1 b6
    rw [hX, e2] at stp
    generalize hXe : (m >>> (5 * oht c k)) % 32 = X at stp hsd
    generalize hYe : 2 ^ ohq c k = Y at stp hsd
    have no : ohs c k = 0 → ohp c k = P → (csgn ((X : Int) - 0) = 0 ∨ (csgn ((X : Int) - 0) ≠ 0 ∧ csgn ((X : Int) - (Y : Int)) = 0)) → ∀ D : Int, D = bor (g 92 4) 0 → ((D = 0 ∧ ¬ dbk c P (k + 1)) ∨ (D = 1 ∧ dbk c P (k + 1))) := by
      intro hs hp hx D hD
      have hn : ¬ (X ≠ 0 ∧ X ≠ Y) := by
        rintro ⟨p1, p2⟩
        rcases hx with hx | ⟨-, hx⟩
        · have := csgn_z.mp hx; omega
        · have := csgn_z.mp hx; omega
      rw [dbk_s hs hp, ← hsd]
      rcases a7 with ⟨q1, q2⟩ | ⟨q1, q2⟩
      · exact Or.inl ⟨by rw [hD, q1]; rfl, fun q => q.elim q2 hn⟩
      · exact Or.inr ⟨by rw [hD, q1]; rfl, Or.inl q2⟩
    have hyes : ohs c k = 0 → ohp c k = P → csgn ((X : Int) - 0) ≠ 0 → csgn ((X : Int) - (Y : Int)) ≠ 0 → ∀ D : Int, D = bor (g 92 4) 1 → ((D = 0 ∧ ¬ dbk c P (k + 1)) ∨ (D = 1 ∧ dbk c P (k + 1))) := by
      intro hs hp h1 h2 D hD
      have hn : X ≠ 0 ∧ X ≠ Y := ⟨fun e => h1 (csgn_z.mpr (by omega)), fun e => h2 (csgn_z.mpr (by omega))⟩
      refine Or.inr ⟨?_, (dbk_s hs hp).mpr (Or.inr (hsd.mp hn))⟩
      rcases a7 with ⟨q1, -⟩ | ⟨q1, -⟩ <;> rw [hD, q1] <;> rfl
    have lt : ohs c k = 0 → ohp c k = P → trh c (ohp c k) (oht c k) = (ohq c k : Int) → ∀ z : Int, z = bor (l : Int) 0 → ∃ l' : Nat, z = (l' : Int) ∧ wset c (lip c P) (k + 1) l' := fun hs hp hv z hz => ⟨l, by rw [hz, bor0 _ y2.1], wset_n y2 (bf (fun q => (lip_i.mp q).2.2 hv))⟩
    have ll : ohs c k = 0 → ohp c k = P → trh c (ohp c k) (oht c k) ≠ (ohq c k : Int) → ∀ z : Int, z = bor (l : Int) (bsl 1 (ohw c k : Int)) → ∃ l' : Nat, z = (l' : Int) ∧ wset c (lip c P) (k + 1) l' := fun hs hp hv z hz => ⟨_, by rw [hz, (bor6 _ y2.1 _ (by omega)).1], wset_s y2 (lip_i.mpr ⟨hs, hp, hv⟩) v2⟩
    rcases stp with ⟨z, lf2, w0, w3, w5, w6, h⟩ | ⟨z, g2, kh, lf2, w0, w3, w5, w6, h⟩ | ⟨z, g2, kh, lf2, w0, w3, w5, w6, h⟩ | ⟨z, g2, kh, lf2, w0, w3, w5, w6, h⟩ | ⟨z, g2, kh, lf2, w0, w3, w5, w6, h⟩
    · exact Or.inr ⟨lf2, _, ⟨hlt, w0, by rw [w6]; exact congrArg _ (Int.add_comm _ _), as_skip hA' (by omega), asl_skip hB' (by rw [w3, x1]) (by rw [w5, y1]) (by omega)⟩, h⟩
    · have hs : ohs c k = 0 := by rcases z with z | z <;> exact z.1
      have hp : ohp c k = P := by rcases z with z | z <;> have := z.2.1 <;> omega
      obtain ⟨l', q1, q2⟩ := ll hs hp (by rcases z with ⟨-, -, -, z⟩ | ⟨-, -, -, -, z⟩ <;> exact z) _ rfl
      rw [q1] at w5
      exact Or.inr ⟨lf2, _, hnxt hs hp (no hs hp (by rcases z with ⟨-, -, z, -⟩ | ⟨-, -, z, z', -⟩; exact Or.inl z; exact Or.inr ⟨z, z'⟩) _ rfl) q2 kh w0 w3 w5 w6, h⟩
    · have hs : ohs c k = 0 := by rcases z with z | z <;> exact z.1
      have hp : ohp c k = P := by rcases z with z | z <;> have := z.2.1 <;> omega
      obtain ⟨l', q1, q2⟩ := lt hs hp (by rcases z with ⟨-, -, -, z⟩ | ⟨-, -, -, -, z⟩ <;> exact z) _ rfl
      rw [q1] at w5
      exact Or.inr ⟨lf2, _, hnxt hs hp (no hs hp (by rcases z with ⟨-, -, z, -⟩ | ⟨-, -, z, z', -⟩; exact Or.inl z; exact Or.inr ⟨z, z'⟩) _ rfl) q2 kh w0 w3 w5 w6, h⟩
    · obtain ⟨hs, hp, z1, z2, z3⟩ := z
      have hp : ohp c k = P := by omega
      obtain ⟨l', q1, q2⟩ := ll hs hp z3 _ rfl
      rw [q1] at w5
      exact Or.inr ⟨lf2, _, hnxt hs hp (hyes hs hp z1 z2 _ rfl) q2 kh w0 w3 w5 w6, h⟩
    · obtain ⟨hs, hp, z1, z2, z3⟩ := z
      have hp : ohp c k = P := by omega
      obtain ⟨l', q1, q2⟩ := lt hs hp z3 _ rfl
      rw [q1] at w5
      exact Or.inr ⟨lf2, _, hnxt hs hp (hyes hs hp z1 z2 _ rfl) q2 kh w0 w3 w5 w6, h⟩
  · have ek : k = N := by omega
    subst ek
    have hA0 := hA
    obtain ⟨a1, ⟨a2, a3⟩, -⟩ := hA
    obtain ⟨⟨m, x1, -, -⟩, l, y1, y2⟩ := hB
    obtain ⟨fr, f1, f2⟩ := hF W hWq
    have hfr : g (17 + 2 * W) 5 = (fr : Int) := by rw [a1 _ _ (by omega) (by omega) (by omega)]; exact f2
    have hky : ban (fr : Int) (l : Int) ≠ 0 ↔ 0 < cnt (lfr c W P) k := by
      rw [and6 fr f1 l y2.1, cnt_pos]
      constructor
      · intro ⟨v, w1, w2, w3⟩
        obtain ⟨i, i1, i2, i3⟩ := (y2.2 v w1).mp w3
        have x := lip_i.mp i2
        refine ⟨i, i1, lfr_i.mpr ⟨x.1, x.2.2, x.2.1, ?_⟩⟩
        rw [f2, i3]
        exact ((isb6 fr f1 v w1).1).mpr w2
      · intro ⟨i, i1, i2⟩
        have x := lfr_i.mp i2
        obtain ⟨-, v2, -, -, -⟩ := hV i i1
        have b := x.2.2.2
        rw [f2] at b
        exact ⟨ohw c i, by omega, ((isb6 fr f1 _ (by omega)).1).mp b, (y2.2 _ (by omega)).mpr ⟨i, i1, lip_i.mpr ⟨x.1, x.2.2.1, x.2.1⟩, rfl⟩⟩
    have hput : ∀ z : Int, ((z = 0 ∧ ¬ 0 < cnt (lfr c W P) k) ∨ (z = 1 ∧ 0 < cnt (lfr c W P) k)) → ASD c (cup g 92 5 z) k W P := by
      intro z hz
      obtain ⟨b1, ⟨b2, b3⟩, ⟨m1, c1, c2, c3⟩, b5, b6, ⟨m2, d1, d2, d3⟩, b8⟩ := hA0
      refine ⟨⟨fun i j i1 i2 i3 => by rw [cup_ne (by omega)]; exact b1 i j i1 i2 i3, ⟨by rw [cup_ne (by omega)]; exact b2, by rw [cup_ne (by omega)]; exact b3⟩, ⟨m1, by rw [cup_ne (by omega)]; exact c1, c2, c3⟩, fun T hT => by rw [cup_ne (by omega)]; exact b5 T hT, fun Q hQ T hT => by rw [cup_ne (by omega)]; exact b6 Q hQ T hT, ⟨m2, by rw [cup_ne (by omega)]; exact d1, d2, d3⟩, by rw [cup_ne (by omega)]; exact b8⟩, by rw [cup_at]; exact hz⟩
    rcases t_ask75e_92 hW hP hN16 hN16 gN a2 a3 hfr (Nat.le_refl _) h b0 x1 y1 b6 with ⟨z, e⟩ | ⟨z, e⟩
    · exact Or.inl ⟨_, e, hput 0 (Or.inl ⟨rfl, fun q => hky.mpr q z⟩)⟩
    · exact Or.inl ⟨_, e, hput 1 (Or.inr ⟨rfl, hky.mp z⟩)⟩
end Ask2
