section
/-! loops, counts, small sets -/
section Lib
variable {sv : Nat → Int32} {L : Nat}
theorem zloop {y pc : Nat} {o : cg × Option cv} (Q : Nat → dlf → cg → Prop) (E : Prop) (hstep : ∀ (n i : Nat) (lf : dlf) (g : cg), Q i lf g → zr sv L (n + 1) y pc lf [] g o → E ∨ ∃ lf' g', Q (i + 1) lf' g' ∧ zr sv L n y pc lf' [] g' o) : ∀ (n i : Nat) (lf : dlf) (g : cg), Q i lf g → zr sv L n y pc lf [] g o → E
  | 0, _, _, _, _, h => (zr_0 h).elim
  | n + 1, i, lf, g, hQ, h => by
    rcases hstep n i lf g hQ h with e | ⟨lf', g', h1, h2⟩
    · exact e
    · exact zloop Q E hstep n (i + 1) lf' g' h1 h2
def cnt (f : Nat → Bool) : Nat → Nat
  | 0 => 0
  | n + 1 => cnt f n + (f n).toNat
theorem cnt_le {f : Nat → Bool} : ∀ n : Nat, cnt f n ≤ n
  | 0 => Nat.le_refl 0
  | n + 1 => by
    have h := cnt_le (f := f) n
    have := Bool.toNat_le (f n)
    show cnt f n + (f n).toNat ≤ n + 1
    omega
theorem cnt_congr {f f' : Nat → Bool} : ∀ n : Nat, (∀ i : Nat, i < n → f i = f' i) → cnt f n = cnt f' n
  | 0, _ => rfl
  | n + 1, h => by
    show cnt f n + (f n).toNat = cnt f' n + (f' n).toNat
    rw [cnt_congr n (fun i hi => h i (by omega)), h n (by omega)]
theorem cnt_split {f e : Nat → Bool} : ∀ n : Nat, cnt f n = cnt (fun i => f i && e i) n + cnt (fun i => f i && !e i) n
  | 0 => rfl
  | n + 1 => by
    show cnt f n + (f n).toNat = cnt (fun i => f i && e i) n + (f n && e n).toNat + (cnt (fun i => f i && !e i) n + (f n && !e n).toNat)
    rw [cnt_split (f := f) (e := e) n]
    have : (f n).toNat = (f n && e n).toNat + (f n && !e n).toNat := by cases f n <;> cases e n <;> rfl
    omega
theorem cnt_pos {f : Nat → Bool} : ∀ n : Nat, 0 < cnt f n ↔ ∃ i : Nat, i < n ∧ f i = true
  | 0 => ⟨fun h => absurd h (Nat.lt_irrefl 0), fun ⟨i, hi, _⟩ => absurd hi (Nat.not_lt_zero i)⟩
  | n + 1 => by
    have ih := cnt_pos (f := f) n
    show 0 < cnt f n + (f n).toNat ↔ _
    constructor
    · intro h
      by_cases q : 0 < cnt f n
      · obtain ⟨i, h1, h2⟩ := ih.mp q
        exact ⟨i, by omega, h2⟩
      · refine ⟨n, by omega, ?_⟩
        cases hb : f n with
        | true => rfl
        | false => rw [hb] at h; have : (false : Bool).toNat = 0 := rfl; omega
    · intro ⟨i, h1, h2⟩
      by_cases q : i = n
      · rw [q] at h2; rw [h2]; have : (true : Bool).toNat = 1 := rfl; omega
      · have := ih.mpr ⟨i, by omega, h2⟩; omega
theorem cnt_s {f : Nat → Bool} {n : Nat} (h : f n = true) : cnt f (n + 1) = cnt f n + 1 := by show cnt f n + (f n).toNat = _; rw [h]; rfl
theorem cnt_n {f : Nat → Bool} {n : Nat} (h : f n = false) : cnt f (n + 1) = cnt f n := by show cnt f n + (f n).toNat = _; rw [h]; rfl
/-! sets of at most six -/
theorem bor6 : ∀ m : Nat, m < 64 → ∀ w : Nat, w < 6 → bor (m : Int) (bsl 1 (w : Int)) = ((m ||| 2 ^ w : Nat) : Int) ∧ m ||| 2 ^ w < 64 := by decide +kernel
theorem bor0 : ∀ m : Nat, m < 64 → bor (m : Int) 0 = (m : Int) := by decide +kernel
theorem tb6 : ∀ m : Nat, m < 64 → ∀ w : Nat, w < 6 → ∀ v : Nat, v < 6 → (m ||| 2 ^ w).testBit v = (m.testBit v || decide (v = w)) := by decide +kernel
def pc6 (m : Nat) : Nat := (m.testBit 0).toNat + (m.testBit 1).toNat + (m.testBit 2).toNat + (m.testBit 3).toNat + (m.testBit 4).toNat + (m.testBit 5).toNat
theorem pc6_set : ∀ m : Nat, m < 64 → ∀ w : Nat, w < 6 → m.testBit w = false → pc6 (m ||| 2 ^ w) = pc6 m + 1 := by decide +kernel
theorem pc6_low : ∀ m : Nat, m < 64 → m ≠ 0 → ban (m : Int) (w32 ((m : Int) - 1)) = ((m &&& (m - 1) : Nat) : Int) ∧ m &&& (m - 1) < 64 ∧ pc6 m = pc6 (m &&& (m - 1)) + 1 := by decide +kernel
theorem pc6_two : ∀ m : Nat, m < 32 → (1 < pc6 m ↔ ∃ a : Nat, a < 5 ∧ ∃ b : Nat, b < 5 ∧ a ≠ b ∧ m.testBit a = true ∧ m.testBit b = true) := by decide +kernel
theorem pc6_le : ∀ m : Nat, m < 64 → pc6 m ≤ 6 := by decide +kernel
theorem lt32 : ∀ m : Nat, m < 32 → ∀ w : Nat, w < 5 → m ||| 2 ^ w < 32 := by decide +kernel
theorem isb6 : ∀ m : Nat, m < 64 → ∀ w : Nat, w < 6 → (ban (bsr (m : Int) (w : Int)) 1 = 1 ↔ m.testBit w = true) ∧ (ban (bsr (m : Int) (w : Int)) 1 = 0 ↔ m.testBit w = false) := by decide +kernel
theorem m_bits_ok {n : Nat} {lf : dlf} {g : cg} {o : cg × Option cv} {m : Nat} (hm : m < 64) (h : zr sv L n 223 0 lf [] g o) (h0 : lf 0 = (0, (m : Int))) : o = (g, some (0, (pc6 m : Int))) := by
  obtain ⟨lf1, a1, a2, h⟩ := m_bits0 h h0
  refine zloop (fun _ lf g' => g' = g ∧ ∃ a x : Nat, lf 1 = (0, (a : Int)) ∧ lf 2 = (0, (x : Int)) ∧ x < 64 ∧ a + pc6 x = pc6 m) _ ?_ n 0 lf1 g ⟨rfl, 0, m, a1, a2, hm, Nat.zero_add _⟩ h
  intro n i lf g' ⟨e, a, x, b1, b2, b3, b4⟩ hzi
  subst e
  have h := hzi
  have hle := pc6_le m hm
  rcases m_bits4 h b1 b2 with ⟨c1, c2⟩ | ⟨c1, lf2, c2, c3, c4⟩
  · have : x = 0 := by omega
    subst this
    have : pc6 0 = 0 := rfl
    rw [this] at b4
    exact Or.inl (by rw [c2, show a = pc6 m by omega])
  · obtain ⟨d1, d2, d3⟩ := pc6_low x b3 (by omega)
    rw [d1] at c3
    rw [w32_id (by omega) (by omega)] at c2
    exact Or.inr ⟨lf2, _, ⟨rfl, a + 1, _, c2, c3, d2, by omega⟩, c4⟩
end Lib
end
section
/-! what is asked of a court, by the class's cells: OATHS 29 .., PERSONS 17 .. -/
def ohw (c : cg) (k : Nat) : Nat := (c (29 + k) 0).toNat
def ohp (c : cg) (k : Nat) : Nat := (c (29 + k) 1).toNat
def ohq (c : cg) (k : Nat) : Nat := (c (29 + k) 2).toNat
def oht (c : cg) (k : Nat) : Nat := (c (29 + k) 3).toNat
def ohs (c : cg) (k : Nat) : Int := c (29 + k) 5
def trh (c : cg) (p t : Nat) : Int := c (18 + 2 * p) t
/-- it STANDS, of this PERSON and HOUR -/
def isof (c : cg) (P T k : Nat) : Bool := decide (ohs c k = 0 ∧ ohp c k = P ∧ oht c k = T)
def says (c : cg) (P Q T k : Nat) : Bool := isof c P T k && decide (ohq c k = Q)
def gns (c : cg) (W P Q T k : Nat) : Bool := isof c P T k && (decide (ohq c k ≠ Q) && decide (ohw c k ≠ W))
def lie (c : cg) (k : Nat) : Bool := decide (ohs c k = 0 ∧ trh c (ohp c k) (oht c k) ≠ (ohq c k : Int))
/-- the OATHS of both programs -/
def OHV (c : cg) (N : Nat) : Prop := ∀ k : Nat, k < N → OHC c k (ohw c k) (ohp c k) (ohq c k) (oht c k) (c (29 + k) 4) (ohs c k) (c (29 + k) 6) ∧ ohw c k ≤ 5 ∧ ohp c k ≤ 5 ∧ ohq c k ≤ 4 ∧ oht c k ≤ 7
def OHR (c d : cg) (N : Nat) : Prop := ∀ k : Nat, k < N → OHM d k (ohw c k) (ohp c k) (ohq c k) (oht c k) (c (29 + k) 4) (ohs c k) (c (29 + k) 6)
/-- one WITNESS, one OATH that STANDS of a PERSON and HOUR -/
def UQ (c : cg) (N : Nat) : Prop := ∀ i k : Nat, i < k → k < N → ohs c i = 0 → ohs c k = 0 → ohp c i = ohp c k → oht c i = oht c k → ohw c i ≠ ohw c k
/-- PERSONS, by their cells -/
def PRS (c d : cg) (nq : Nat) : Prop := ∀ i : Nat, i < nq → PMm d i (c (17 + 2 * i) 1) (c (17 + 2 * i) 2) (c (17 + 2 * i) 3) (c (17 + 2 * i) 4) (c (17 + 2 * i) 5) ∧ ∀ t : Nat, t < 8 → d 254 (51 + 8 * i + t) = trh c i t
theorem nt_ne {a b : Nat} (h : (a : Int) ≠ (b : Int)) : a ≠ b := fun e => h (by rw [e])
theorem isof_t {c : cg} {P T k : Nat} (h1 : ohs c k = 0) (h2 : (ohp c k : Int) = (P : Int)) (h3 : (oht c k : Int) = (T : Int)) : isof c P T k = true := decide_eq_true ⟨h1, by omega, by omega⟩
theorem isof_f {c : cg} {P T k : Nat} (h : ohs c k ≠ 0 ∨ (ohp c k : Int) ≠ (P : Int) ∨ (oht c k : Int) ≠ (T : Int)) : isof c P T k = false := decide_eq_false (fun ⟨h1, h2, h3⟩ => by omega)
theorem isof_i {c : cg} {P T k : Nat} : isof c P T k = true ↔ ohs c k = 0 ∧ ohp c k = P ∧ oht c k = T := ⟨fun h => of_decide_eq_true h, fun h => decide_eq_true h⟩
theorem says_i {c : cg} {P Q T k : Nat} : says c P Q T k = true ↔ ohs c k = 0 ∧ ohp c k = P ∧ oht c k = T ∧ ohq c k = Q := by
  unfold says
  rw [Bool.and_eq_true, isof_i, decide_eq_true_iff]
  exact ⟨fun ⟨⟨a, b, d⟩, e⟩ => ⟨a, b, d, e⟩, fun ⟨a, b, d, e⟩ => ⟨⟨a, b, d⟩, e⟩⟩
theorem gns_i {c : cg} {W P Q T k : Nat} : gns c W P Q T k = true ↔ ohs c k = 0 ∧ ohp c k = P ∧ oht c k = T ∧ ohq c k ≠ Q ∧ ohw c k ≠ W := by
  unfold gns
  rw [Bool.and_eq_true, Bool.and_eq_true, isof_i, decide_eq_true_iff, decide_eq_true_iff]
  exact ⟨fun ⟨⟨a, b, d⟩, e, f⟩ => ⟨a, b, d, e, f⟩, fun ⟨a, b, d, e, f⟩ => ⟨⟨a, b, d⟩, e, f⟩⟩
theorem bf {b : Bool} (h : ¬ b = true) : b = false := by cases b; rfl; exact absurd rfl h
section Mq
variable {sv : Nat → Int32} {L : Nat} {n : Nat} {lf : dlf} {c d : cg} {o : cg × Option cv} {N W P Q T : Nat}
/-- the WITNESSES of those that are so, as a set -/
def wset (c : cg) (f : Nat → Bool) (k m : Nat) : Prop := m < 64 ∧ ∀ v : Nat, v < 6 → (m.testBit v = true ↔ ∃ i : Nat, i < k ∧ f i = true ∧ ohw c i = v)
theorem wset0 {f : Nat → Bool} : wset c f 0 0 := ⟨by decide, fun v _ => ⟨fun h => (by rw [Nat.zero_testBit] at h; cases h), fun ⟨i, hi, _⟩ => absurd hi (Nat.not_lt_zero i)⟩⟩
theorem wset_n {f : Nat → Bool} {k m : Nat} (h : wset c f k m) (hf : f k = false) : wset c f (k + 1) m := ⟨h.1, fun v hv => (h.2 v hv).trans ⟨fun ⟨i, a, b⟩ => ⟨i, by omega, b⟩, fun ⟨i, a, b, e⟩ => ⟨i, by
  by_cases q : i = k
  · rw [q, hf] at b; cases b
  · omega, b, e⟩⟩⟩
theorem wset_s {f : Nat → Bool} {k m : Nat} (h : wset c f k m) (hf : f k = true) (hw : ohw c k ≤ 5) : wset c f (k + 1) (m ||| 2 ^ ohw c k) := by
  refine ⟨(bor6 m h.1 _ (by omega)).2, fun v hv => ?_⟩
  rw [tb6 m h.1 _ (by omega) v hv, Bool.or_eq_true, h.2 v hv, decide_eq_true_iff]
  constructor
  · rintro (⟨i, a, b⟩ | e)
    · exact ⟨i, by omega, b⟩
    · exact ⟨k, by omega, hf, e.symm⟩
  · intro ⟨i, a, b, e⟩
    by_cases q : i = k
    · rw [q] at e; exact Or.inr e.symm
    · exact Or.inl ⟨i, by omega, b, e⟩
theorem m_agn_ok (hW : W ≤ 5) (hP : P ≤ 5) (hQ : Q ≤ 4) (hT : T ≤ 7) (hN16 : N ≤ 16) (hN : d 254 2 = (N : Int)) (hV : OHV c N) (hR : OHR c d N) (hU : UQ c N) (h : zr sv L n 225 0 lf [] d o) (h0 : lf 0 = (4, 253)) (h1 : lf 1 = (0, (W : Int))) (h2 : lf 2 = (0, (P : Int))) (h3 : lf 3 = (0, (Q : Int))) (h4 : lf 4 = (0, (T : Int))) : o = (d, some (0, (cnt (gns c W P Q T) N : Int))) := by
  obtain ⟨lf1, a0, a1, a2, a3, a4, a5, a6, h⟩ := m_agn0 hW hP hQ hT h h0 h1 h2 h3 h4
  refine zloop (fun k lf g => g = d ∧ k ≤ N ∧ lf 0 = (4, 253) ∧ lf 1 = (0, (W : Int)) ∧ lf 2 = (0, (P : Int)) ∧ lf 3 = (0, (Q : Int)) ∧ lf 4 = (0, (T : Int)) ∧ ∃ m : Nat, lf 5 = (0, (m : Int)) ∧ lf 6 = (0, (k : Int)) ∧ wset c (gns c W P Q T) k m ∧ pc6 m = cnt (gns c W P Q T) k) _ ?_ n 0 lf1 d ⟨rfl, by omega, a0, a1, a2, a3, a4, 0, a5, a6, wset0, rfl⟩ h
  intro n k lf g ⟨e, hk, b0, b1, b2, b3, b4, m, b5, b6, b7, b8⟩ hzk
  subst e
  have h := hzk
  by_cases hlt : k < N
  · obtain ⟨v1, v2, v3, v4, v5⟩ := hV k hlt
    rcases m_agn_s hW hP hQ hT v2 v3 v4 v5 (by omega) hN16 hN (hR k hlt) hlt h b0 b1 b2 b3 b4 b5 b6 with ⟨z, lf2, y0, y1, y2, y3, y4, y5, y6, h⟩ | ⟨z, lf2, y0, y1, y2, y3, y4, y5, y6, h⟩
    · have hf : gns c W P Q T k = false := bf (fun q => by
        have := gns_i.mp q
        omega)
      exact Or.inr ⟨lf2, _, ⟨rfl, hlt, y0, y1, y2, y3, y4, m, y5, by rw [y6]; exact congrArg _ (Int.add_comm _ _), wset_n b7 hf, by rw [cnt_n hf]; exact b8⟩, h⟩
    · have hf : gns c W P Q T k = true := gns_i.mpr (by omega)
      obtain ⟨x1, x2⟩ := bor6 m b7.1 (ohw c k) (by omega)
      rw [x1] at y5
      have hno : m.testBit (ohw c k) = false := bf (fun q => by
        obtain ⟨i, i1, i2, i3⟩ := (b7.2 _ (by omega)).mp q
        have j1 := gns_i.mp i2
        have j2 := gns_i.mp hf
        exact hU i k i1 hlt j1.1 j2.1 (by omega) (by omega) i3)
      exact Or.inr ⟨lf2, _, ⟨rfl, hlt, y0, y1, y2, y3, y4, _, y5, by rw [y6]; exact congrArg _ (Int.add_comm _ _), wset_s b7 hf v2, by rw [cnt_s hf, pc6_set m b7.1 _ (by omega) hno, b8]⟩, h⟩
  · have ek : k = N := by omega
    subst ek
    obtain ⟨g1, r1, k1, h⟩ := m_agn_e hW hP hQ hT hN16 hN16 hN (Nat.le_refl _) h b0 b1 b2 b3 b4 b5 b6
    obtain ⟨u1, u2⟩ := oI (m_bits_ok b7.1 k1 rfl)
    exact Or.inl (by rw [h, u1, u2, b8])
/-- OATHS that say so; of one WITNESS, where u is one -/
def bkd (c : cg) (P Q T : Nat) (u : Int) (k : Nat) : Bool := says c P Q T k && decide (u = -1 ∨ (ohw c k : Int) = u)
theorem bkd_i {u : Int} {k : Nat} : bkd c P Q T u k = true ↔ (ohs c k = 0 ∧ ohp c k = P ∧ oht c k = T ∧ ohq c k = Q) ∧ (u = -1 ∨ (ohw c k : Int) = u) := by
  unfold bkd
  rw [Bool.and_eq_true, says_i, decide_eq_true_iff]
theorem m_bkd_ok {u : Int} (hP : P ≤ 5) (hQ : Q ≤ 4) (hT : T ≤ 7) (hN16 : N ≤ 16) (hN : d 254 2 = (N : Int)) (hV : OHV c N) (hR : OHR c d N) (h : zr sv L n 226 0 lf [] d o) (h0 : lf 0 = (4, 253)) (h1 : lf 1 = (0, (P : Int))) (h2 : lf 2 = (0, (Q : Int))) (h3 : lf 3 = (0, (T : Int))) (h4 : lf 4 = (0, u)) : o = (d, some (0, (cnt (bkd c P Q T u) N : Int))) := by
  obtain ⟨lf1, a0, a1, a2, a3, a4, a5, a6, h⟩ := m_bkd0 hP hQ hT h h0 h1 h2 h3 h4
  refine zloop (fun k lf g => g = d ∧ k ≤ N ∧ lf 0 = (4, 253) ∧ lf 1 = (0, (P : Int)) ∧ lf 2 = (0, (Q : Int)) ∧ lf 3 = (0, (T : Int)) ∧ lf 4 = (0, u) ∧ lf 5 = (0, (cnt (bkd c P Q T u) k : Int)) ∧ lf 6 = (0, (k : Int))) _ ?_ n 0 lf1 d ⟨rfl, by omega, a0, a1, a2, a3, a4, a5, a6⟩ h
  intro n k lf g ⟨e, hk, b0, b1, b2, b3, b4, b5, b6⟩ hzk
  subst e
  have h := hzk
  have hc := cnt_le (f := bkd c P Q T u) k
  by_cases hlt : k < N
  · obtain ⟨v1, v2, v3, v4, v5⟩ := hV k hlt
    rcases m_bkd_s hP hQ hT v2 v3 v4 v5 (by omega) hN16 hN (hR k hlt) hlt h b0 b1 b2 b3 b4 b5 b6 with ⟨z, lf2, y0, y1, y2, y3, y4, y5, y6, h⟩ | ⟨z, lf2, y0, y1, y2, y3, y4, y5, y6, h⟩
    · have hf : bkd c P Q T u k = false := bf (fun q => by
        have := bkd_i.mp q
        omega)
      rw [w32_id (by omega) (by omega)] at y5
      exact Or.inr ⟨lf2, _, ⟨rfl, hlt, y0, y1, y2, y3, y4, by rw [y5, cnt_n hf]; exact congrArg _ (Int.add_zero _), by rw [y6]; exact congrArg _ (Int.add_comm _ _)⟩, h⟩
    · have hf : bkd c P Q T u k = true := bkd_i.mpr (by omega)
      rw [w32_id (by omega) (by omega)] at y5
      exact Or.inr ⟨lf2, _, ⟨rfl, hlt, y0, y1, y2, y3, y4, by rw [y5, cnt_s hf]; rfl, by rw [y6]; exact congrArg _ (Int.add_comm _ _)⟩, h⟩
  · have ek : k = N := by omega
    subst ek
    exact Or.inl (m_bkd_e hP hQ hT hN16 hN16 hN (Nat.le_refl _) h b0 b1 b2 b3 b4 b5 b6)
end Mq
end
section
/-! DOUBT, FEE, WHY: the reference -/
theorem zloop2 {sv : Nat → Int32} {L y pc : Nat} {o : cg × Option cv} (Q : Nat → dlf → cg → Prop) (E : Nat → Prop) (hmono : ∀ n : Nat, E n → E (n + 1)) (hstep : ∀ (n i : Nat) (lf : dlf) (g : cg), Q i lf g → zr sv L (n + 1) y pc lf [] g o → E n ∨ ∃ lf' g', Q (i + 1) lf' g' ∧ zr sv L n y pc lf' [] g' o) : ∀ (n i : Nat) (lf : dlf) (g : cg), Q i lf g → zr sv L n y pc lf [] g o → E n
  | 0, _, _, _, _, h => (zr_0 h).elim
  | n + 1, i, lf, g, hQ, h => by
    rcases hstep n i lf g hQ h with e | ⟨lf', g', h1, h2⟩
    · exact hmono n e
    · exact hmono n (zloop2 Q E hmono hstep n (i + 1) lf' g' h1 h2)
/-- the PLACES said of a PERSON and HOUR, as a set -/
def pmk (c : cg) (P T : Nat) : Nat → Nat
  | 0 => 0
  | k + 1 => cond (isof c P T k) (pmk c P T k ||| 2 ^ ohq c k) (pmk c P T k)
theorem pmk_t {c : cg} {P T k : Nat} (h : isof c P T k = true) : pmk c P T (k + 1) = pmk c P T k ||| 2 ^ ohq c k := by
  show cond (isof c P T k) _ _ = _
  rw [h]; rfl
theorem pmk_f {c : cg} {P T k : Nat} (h : isof c P T k = false) : pmk c P T (k + 1) = pmk c P T k := by
  show cond (isof c P T k) _ _ = _
  rw [h]; rfl
theorem pmk_lt {c : cg} {P T N : Nat} (hV : OHV c N) : ∀ k : Nat, k ≤ N → pmk c P T k < 32
  | 0, _ => by show (0 : Nat) < 32; omega
  | k + 1, hk => by
    have ih := pmk_lt (P := P) (T := T) hV k (by omega)
    obtain ⟨-, -, -, v4, -⟩ := hV k (by omega)
    cases hb : isof c P T k with
    | true => rw [pmk_t hb]; exact lt32 _ ih _ (by omega)
    | false => rw [pmk_f hb]; exact ih
theorem pmk_tb {c : cg} {P T N : Nat} (hV : OHV c N) {a : Nat} (ha : a < 5) : ∀ k : Nat, k ≤ N → ((pmk c P T k).testBit a = true ↔ ∃ i : Nat, i < k ∧ isof c P T i = true ∧ ohq c i = a)
  | 0, _ => ⟨fun h => (by rw [show pmk c P T 0 = 0 from rfl, Nat.zero_testBit] at h; cases h), fun ⟨i, hi, _⟩ => absurd hi (Nat.not_lt_zero i)⟩
  | k + 1, hk => by
    have ih := pmk_tb (P := P) (T := T) hV ha k (by omega)
    have lt := pmk_lt (P := P) (T := T) hV k (by omega)
    obtain ⟨-, -, -, v4, -⟩ := hV k (by omega)
    cases hb : isof c P T k with
    | true =>
      rw [pmk_t hb, tb6 _ (by omega) _ (by omega) a (by omega), Bool.or_eq_true, ih, decide_eq_true_iff]
      constructor
      · rintro (⟨i, x, y⟩ | e)
        · exact ⟨i, by omega, y⟩
        · exact ⟨k, by omega, hb, e.symm⟩
      · intro ⟨i, x, y, z⟩
        by_cases q : i = k
        · rw [q] at z; exact Or.inr z.symm
        · exact Or.inl ⟨i, by omega, y, z⟩
    | false =>
      rw [pmk_f hb, ih]
      constructor
      · intro ⟨i, x, y⟩; exact ⟨i, by omega, y⟩
      · intro ⟨i, x, y, z⟩
        by_cases q : i = k
        · rw [q, hb] at y; cases y
        · exact ⟨i, by omega, y, z⟩
/-- an HOUR is in DOUBT -/
def dbh (c : cg) (P N T : Nat) : Bool := decide (1 < pc6 (pmk c P T N))
theorem dbh_i {c : cg} {P N T : Nat} (hV : OHV c N) : dbh c P N T = true ↔ ∃ i : Nat, i < N ∧ ∃ k : Nat, k < N ∧ isof c P T i = true ∧ isof c P T k = true ∧ ohq c i ≠ ohq c k := by
  unfold dbh
  rw [decide_eq_true_iff, pc6_two _ (pmk_lt hV N (Nat.le_refl N))]
  constructor
  · intro ⟨a, ha, b, hb, hn, h1, h2⟩
    obtain ⟨i, i1, i2, i3⟩ := (pmk_tb hV ha N (Nat.le_refl N)).mp h1
    obtain ⟨k, k1, k2, k3⟩ := (pmk_tb hV hb N (Nat.le_refl N)).mp h2
    exact ⟨i, i1, k, k1, i2, k2, by omega⟩
  · intro ⟨i, i1, k, k1, i2, k2, hn⟩
    obtain ⟨-, -, -, v4, -⟩ := hV i i1
    obtain ⟨-, -, -, u4, -⟩ := hV k k1
    exact ⟨ohq c i, by omega, ohq c k, by omega, hn, (pmk_tb hV (by omega) N (Nat.le_refl N)).mpr ⟨i, i1, i2, rfl⟩, (pmk_tb hV (by omega) N (Nat.le_refl N)).mpr ⟨k, k1, k2, rfl⟩⟩
section Mq2
variable {sv : Nat → Int32} {L : Nat} {n : Nat} {lf : dlf} {c d : cg} {o : cg × Option cv} {N W P Q T : Nat}
theorem m_dbt_ok (hP : P ≤ 5) (hN16 : N ≤ 16) (hN : d 254 2 = (N : Int)) (hV : OHV c N) (hR : OHR c d N) (h : zr sv L n 222 0 lf [] d o) (h0 : lf 0 = (4, 253)) (h1 : lf 1 = (0, (P : Int))) : o = (d, some (0, (cnt (dbh c P N) 8 : Int))) := by
  obtain ⟨lf1, a0, a1, a2, a3, h⟩ := m_dbt0 hP h h0 h1
  refine zloop (fun T lf g => g = d ∧ T ≤ 8 ∧ lf 0 = (4, 253) ∧ lf 1 = (0, (P : Int)) ∧ lf 2 = (0, (cnt (dbh c P N) T : Int)) ∧ lf 3 = (0, (T : Int))) _ ?_ n 0 lf1 d ⟨rfl, by omega, a0, a1, a2, a3⟩ h
  intro n T lf g ⟨e, hT, b0, b1, b2, b3⟩ hzT
  subst e
  have h := hzT
  rcases m_dbt4 hP h b0 b1 b2 b3 with ⟨x, e⟩ | ⟨x, lf2, y0, y1, y2, y3, y4, y5, h⟩
  · have : T = 8 := by omega
    subst this
    exact Or.inl e
  · refine Or.inr (zloop2 (fun k lf g' => g' = g ∧ k ≤ N ∧ lf 0 = (4, 253) ∧ lf 1 = (0, (P : Int)) ∧ lf 2 = (0, (cnt (dbh c P N) T : Int)) ∧ lf 3 = (0, (T : Int)) ∧ lf 4 = (0, (pmk c P T k : Int)) ∧ lf 5 = (0, (k : Int))) (fun n => ∃ lf' g', (g' = g ∧ T + 1 ≤ 8 ∧ lf' 0 = (4, 253) ∧ lf' 1 = (0, (P : Int)) ∧ lf' 2 = (0, (cnt (dbh c P N) (T + 1) : Int)) ∧ lf' 3 = (0, ((T + 1 : Nat) : Int))) ∧ zr sv L n 222 4 lf' [] g' o) ?_ ?_ n 0 lf2 g ⟨rfl, by omega, y0, y1, y2, y3, y4, y5⟩ h)
    · intro n ⟨lf', g', a, b⟩
      exact ⟨lf', g', a, zr_m b⟩
    · intro n k lf g' ⟨e, hk, b0, b1, b2, b3, b4, b5⟩ hzk
      subst e
      have h := hzk
      have hc := cnt_le (f := dbh c P N) T
      by_cases hlt : k < N
      · obtain ⟨v1, v2, v3, v4, v5⟩ := hV k hlt
        have lt := pmk_lt (P := P) (T := T) hV k (by omega)
        rcases m_dbt16_s hP (by omega) v2 v3 v4 v5 (by omega) hN16 hN (hR k hlt) hlt h b0 b1 b2 b3 b4 b5 with ⟨z, lf3, w0, w1, w2, w3, w4, w5, h⟩ | ⟨z, lf3, w0, w1, w2, w3, w4, w5, h⟩
        · have hf : isof c P T k = false := isof_f (by omega)
          rw [bor0 _ (by omega)] at w4
          exact Or.inr ⟨lf3, _, ⟨rfl, hlt, w0, w1, w2, w3, by rw [pmk_f hf]; exact w4, by rw [w5]; exact congrArg _ (Int.add_comm _ _)⟩, h⟩
        · have hf : isof c P T k = true := isof_t z.1 z.2.1 z.2.2
          rw [(bor6 _ (by omega) _ (by omega)).1] at w4
          exact Or.inr ⟨lf3, _, ⟨rfl, hlt, w0, w1, w2, w3, by rw [pmk_t hf]; exact w4, by rw [w5]; exact congrArg _ (Int.add_comm _ _)⟩, h⟩
      · have ek : k = N := by omega
        subst ek
        have lt := pmk_lt (P := P) (T := T) hV k (by omega)
        obtain ⟨g1, r1, k1, h⟩ := m_dbt16_e hP (by omega) hN16 hN16 hN (Nat.le_refl _) h b0 b1 b2 b3 b4 b5
        obtain ⟨u1, u2⟩ := oI (m_bits_ok (by omega) k1 rfl)
        rw [u1, u2] at h
        rcases h with ⟨z, lf3, w0, w1, w2, w3, h⟩ | ⟨z, lf3, w0, w1, w2, w3, h⟩
        · have hf : dbh c P k T = false := decide_eq_false (by omega)
          rw [w32_id (by omega) (by omega)] at w2
          exact Or.inl ⟨lf3, _, ⟨rfl, by omega, w0, w1, by rw [w2, cnt_n hf]; exact congrArg _ (Int.add_zero _), by rw [w3]; exact congrArg _ (Int.add_comm _ _)⟩, h⟩
        · have hf : dbh c P k T = true := decide_eq_true (by omega)
          rw [w32_id (by omega) (by omega)] at w2
          exact Or.inl ⟨lf3, _, ⟨rfl, by omega, w0, w1, by rw [w2, cnt_s hf]; rfl, by rw [w3]; exact congrArg _ (Int.add_comm _ _)⟩, h⟩
end Mq2
def rate (c : cg) (N W P Q T : Nat) : Int := w32 (c 3 5 + w32 (c 3 6 * (cnt (gns c W P Q T) N : Int)))
def fees (c : cg) (N W P Q T : Nat) : Int := if trh c P T = (Q : Int) ∨ c (17 + 2 * W) 3 = 1 then 0 else if c (17 + 2 * W) 4 ≠ -1 ∧ 0 < cnt (bkd c P Q T (c (17 + 2 * W) 4)) N then qdi (w32 (rate c N W P Q T + 1)) 2 else rate c N W P Q T
def spk (c : cg) (W P T k : Nat) : Bool := isof c P T k && decide (ohw c k = W)
theorem spk_i {c : cg} {W P T k : Nat} : spk c W P T k = true ↔ ohs c k = 0 ∧ ohp c k = P ∧ oht c k = T ∧ ohw c k = W := by
  unfold spk
  rw [Bool.and_eq_true, isof_i, decide_eq_true_iff]
  exact ⟨fun ⟨⟨a, b, d⟩, e⟩ => ⟨a, b, d, e⟩, fun ⟨a, b, d, e⟩ => ⟨⟨a, b, d⟩, e⟩⟩
def lfr (c : cg) (W P k : Nat) : Bool := decide (ohs c k = 0 ∧ trh c (ohp c k) (oht c k) ≠ (ohq c k : Int) ∧ ohp c k = P ∧ ban (bsr (c (17 + 2 * W) 5) (ohw c k : Int)) 1 = 1)
theorem lfr_i {c : cg} {W P k : Nat} : lfr c W P k = true ↔ ohs c k = 0 ∧ trh c (ohp c k) (oht c k) ≠ (ohq c k : Int) ∧ ohp c k = P ∧ ban (bsr (c (17 + 2 * W) 5) (ohw c k : Int)) 1 = 1 := decide_eq_true_iff
def whys (c : cg) (N W P Q T : Nat) : Int := if N = 16 then 1 else if 0 < cnt (spk c W P T) N then 2 else if trh c P T ≠ (Q : Int) ∧ trh c P T ≠ -1 ∧ cnt (dbh c P N) 8 = 0 then 3 else if trh c P T ≠ (Q : Int) ∧ 0 < cnt (lfr c W P) N then 4 else if c (17 + 2 * W) 1 < fees c N W P Q T then 5 else 0
/-- both courts hold the same -/
def RTS (c d : cg) : Prop := d 254 3 = c 3 5 ∧ d 254 4 = c 3 6
theorem cnt_0 {f : Nat → Bool} {N : Nat} (h : ∀ k : Nat, k < N → f k = false) : cnt f N = 0 := by
  by_cases q : 0 < cnt f N
  · obtain ⟨i, h1, h2⟩ := (cnt_pos N).mp q
    rw [h i h1] at h2; cases h2
  · omega
section Mq3
variable {sv : Nat → Int32} {L : Nat} {n : Nat} {lf : dlf} {c d : cg} {o : cg × Option cv} {N W P Q T nq : Nat}
theorem m_fee_ok (hW : W ≤ 5) (hP : P ≤ 5) (hQ : Q ≤ 4) (hT : T ≤ 7) (hN16 : N ≤ 16) (hN : d 254 2 = (N : Int)) (hV : OHV c N) (hR : OHR c d N) (hU : UQ c N) (hS : PRS c d nq) (hWq : W < nq) (hPq : P < nq) (hs : RTS c d) (h : zr sv L n 224 0 lf [] d o) (h0 : lf 0 = (4, 253)) (h1 : lf 1 = (0, (W : Int))) (h2 : lf 2 = (0, (P : Int))) (h3 : lf 3 = (0, (Q : Int))) (h4 : lf 4 = (0, (T : Int))) : o = (d, some (0, fees c N W P Q T)) := by
  have hv := (hS P hPq).2 T (by omega)
  have hm := (hS W hWq).1
  unfold fees
  rcases m_fee hW hP hQ hT hm hv h h0 h1 h2 h3 h4 with ⟨z, e⟩ | ⟨z, g1, r1, k1, h⟩
  · rw [if_pos (by omega)]
    exact e
  · rw [if_neg (fun q => q.elim z.1 z.2)]
    obtain ⟨u1, u2⟩ := oI (m_agn_ok hW hP hQ hT hN16 hN hV hR hU k1 rfl rfl rfl rfl rfl)
    rw [u1, u2, hm.2.2.2.1, hs.1, hs.2] at h
    rcases h with ⟨y, e⟩ | ⟨y, g2, r2, k2, h⟩
    · rw [if_neg (fun q => q.1 y)]
      exact e
    · obtain ⟨v1, v2⟩ := oI (m_bkd_ok hP hQ hT hN16 hN hV hR k2 rfl rfl rfl rfl rfl)
      rw [v1, v2] at h
      rcases h with ⟨x, e⟩ | ⟨x, e⟩
      · rw [if_neg (by omega)]
        exact e
      · rw [if_pos (by omega)]
        exact e
theorem m_why_ok (hW : W ≤ 5) (hP : P ≤ 5) (hQ : Q ≤ 4) (hT : T ≤ 7) (hN16 : N ≤ 16) (hN : d 254 2 = (N : Int)) (hV : OHV c N) (hR : OHR c d N) (hU : UQ c N) (hS : PRS c d nq) (hWq : W < nq) (hPq : P < nq) (hO : ∀ k : Nat, k < N → ohp c k < nq) (hs : RTS c d) (h : zr sv L n 220 0 lf [] d o) (h0 : lf 0 = (4, 253)) (h1 : lf 1 = (0, (W : Int))) (h2 : lf 2 = (0, (P : Int))) (h3 : lf 3 = (0, (Q : Int))) (h4 : lf 4 = (0, (T : Int))) : o = (d, some (0, whys c N W P Q T)) := by
  have hv := (hS P hPq).2 T (by omega)
  have hm := (hS W hWq).1
  unfold whys
  rcases m_why0 hW hP hQ hT hN16 hN h h0 h1 h2 h3 h4 with ⟨z, lf1, a0, a1, a2, a3, a4, a5, h⟩ | ⟨z, e⟩
  · rw [if_neg (by omega)]
    refine zloop (fun k lf g => g = d ∧ k ≤ N ∧ lf 0 = (4, 253) ∧ lf 1 = (0, (W : Int)) ∧ lf 2 = (0, (P : Int)) ∧ lf 3 = (0, (Q : Int)) ∧ lf 4 = (0, (T : Int)) ∧ lf 5 = (0, (k : Int)) ∧ ∀ i : Nat, i < k → spk c W P T i = false) _ ?_ n 0 lf1 d ⟨rfl, by omega, a0, a1, a2, a3, a4, a5, fun i hi => absurd hi (Nat.not_lt_zero i)⟩ h
    intro n k lf g ⟨e, hk, b0, b1, b2, b3, b4, b5, b6⟩ hzk
    subst e
    have h := hzk
    by_cases hlt : k < N
    · obtain ⟨v1, v2, v3, v4, v5⟩ := hV k hlt
      rcases m_why16s hW hP hQ hT v2 v3 v4 v5 (by omega) hN16 hN (hR k hlt) hlt h b0 b1 b2 b3 b4 b5 with ⟨x, lf2, y0, y1, y2, y3, y4, y5, h⟩ | ⟨x, e⟩
      · have hf : spk c W P T k = false := bf (fun q => by
          have := spk_i.mp q
          omega)
        exact Or.inr ⟨lf2, _, ⟨rfl, hlt, y0, y1, y2, y3, y4, by rw [y5]; exact congrArg _ (Int.add_comm _ _), fun i hi => by
          by_cases q : i = k
          · rw [q]; exact hf
          · exact b6 i (by omega)⟩, h⟩
      · have hp : 0 < cnt (spk c W P T) N := (cnt_pos N).mpr ⟨k, hlt, spk_i.mpr (by omega)⟩
        rw [if_pos hp]
        exact Or.inl e
    · have ek : k = N := by omega
      subst ek
      rw [if_neg (by rw [cnt_0 b6]; exact Nat.lt_irrefl 0)]
      left
      have hlst : ∀ {n : Nat} {lf : dlf}, lf 0 = (4, 253) → lf 1 = (0, (W : Int)) → lf 2 = (0, (P : Int)) → lf 3 = (0, (Q : Int)) → lf 4 = (0, (T : Int)) → lf 5 = (0, 0) → zr sv L n 220 92 lf [] g o → o = (g, some (0, if 0 < cnt (lfr c W P) k then 4 else if c (17 + 2 * W) 1 < fees c k W P Q T then 5 else 0)) := by
        intro n lf a0 a1 a2 a3 a4 a5 h
        refine zloop (fun i lf g' => g' = g ∧ i ≤ k ∧ lf 0 = (4, 253) ∧ lf 1 = (0, (W : Int)) ∧ lf 2 = (0, (P : Int)) ∧ lf 3 = (0, (Q : Int)) ∧ lf 4 = (0, (T : Int)) ∧ lf 5 = (0, (i : Int)) ∧ ∀ j : Nat, j < i → lfr c W P j = false) _ ?_ n 0 lf g ⟨rfl, by omega, a0, a1, a2, a3, a4, a5, fun i hi => absurd hi (Nat.not_lt_zero i)⟩ h
        intro n i lf g' ⟨e, hi, c0, c1, c2, c3, c4, c5, c6⟩ hzi
        subst e
        have h := hzi
        by_cases hlt : i < k
        · obtain ⟨v1, v2, v3, v4, v5⟩ := hV i hlt
          rcases m_why92s hW hP hQ hT v2 v3 v4 v5 (by omega) hN16 hN (hR i hlt) ((hS _ (hO i hlt)).2 _ (by omega)) hm.2.2.2.2 hlt h c0 c1 c2 c3 c4 c5 with ⟨x, lf2, y0, y1, y2, y3, y4, y5, h⟩ | ⟨x, e⟩
          · have hf : lfr c W P i = false := bf (fun q => by
              obtain ⟨q1, q2, q3, q4⟩ := lfr_i.mp q
              rcases x with x | ⟨-, -, x⟩ | ⟨-, -, -, x⟩ | ⟨-, x⟩
              · exact x q1
              · omega
              · exact x q4
              · exact q2 x)
            exact Or.inr ⟨lf2, _, ⟨rfl, hlt, y0, y1, y2, y3, y4, by rw [y5]; exact congrArg _ (Int.add_comm _ _), fun j hj => by
              by_cases q : j = i
              · rw [q]; exact hf
              · exact c6 j (by omega)⟩, h⟩
          · have hp : 0 < cnt (lfr c W P) k := (cnt_pos k).mpr ⟨i, hlt, lfr_i.mpr ⟨x.1, x.2.1, by omega, x.2.2.2⟩⟩
            rw [if_pos hp]
            exact Or.inl e
        · have ei : i = k := by omega
          subst ei
          rw [if_neg (by rw [cnt_0 c6]; exact Nat.lt_irrefl 0)]
          left
          obtain ⟨g1, r1, k1, h⟩ := m_why92e hW hP hQ hT hN16 hN16 hN hm.1 (Nat.le_refl _) h c0 c1 c2 c3 c4 c5
          obtain ⟨u1, u2⟩ := oI (m_fee_ok hW hP hQ hT hN16 hN hV hR hU hS hWq hPq hs k1 rfl rfl rfl rfl rfl)
          rw [u1, u2, hm.1] at h
          rcases h with ⟨x, e⟩ | ⟨x, e⟩
          · rw [if_neg (by omega)]; exact e
          · rw [if_pos (by omega)]; exact e
      rcases m_why16e hW hP hQ hT hN16 hN16 hN hv (Nat.le_refl _) h b0 b1 b2 b3 b4 b5 with ⟨x, g1, r1, k1, h⟩ | ⟨x, lf2, y0, y1, y2, y3, y4, y5, h⟩ | ⟨x, g1, r1, k1, h⟩
      · obtain ⟨u1, u2⟩ := oI (m_fee_ok hW hP hQ hT hN16 hN hV hR hU hS hWq hPq hs k1 rfl rfl rfl rfl rfl)
        rw [u1, u2, hm.1] at h
        rw [if_neg (fun q => q.1 x), if_neg (fun q => q.1 x)]
        rcases h with ⟨x, e⟩ | ⟨x, e⟩
        · rw [if_neg (by omega)]; exact e
        · rw [if_pos (by omega)]; exact e
      · rw [if_neg (fun q => q.2.1 x.2), hlst y0 y1 y2 y3 y4 y5 h]
        by_cases q : 0 < cnt (lfr c W P) k
        · rw [if_pos q, if_pos ⟨x.1, q⟩]
        · rw [if_neg q, if_neg (show ¬ (trh c P T ≠ (Q : Int) ∧ 0 < cnt (lfr c W P) k) from fun z => q z.2)]
      · obtain ⟨u1, u2⟩ := oI (m_dbt_ok hP hN16 hN hV hR k1 rfl rfl)
        rw [u1, u2] at h
        rcases h with ⟨z, lf2, y0, y1, y2, y3, y4, y5, h⟩ | ⟨z, e⟩
        · rw [if_neg (fun q => by have := q.2.2; omega), hlst y0 y1 y2 y3 y4 y5 h]
          by_cases q : 0 < cnt (lfr c W P) k
          · rw [if_pos q, if_pos ⟨x.1, q⟩]
          · rw [if_neg q, if_neg (show ¬ (trh c P T ≠ (Q : Int) ∧ 0 < cnt (lfr c W P) k) from fun z => q z.2)]
        · rw [if_pos ⟨x.1, x.2, by omega⟩]
          exact e
  · rw [if_pos (by omega)]
    exact e
end Mq3
end
section
/-! sets of at most forty in 64 bits; of at most eight, seventeen in 32 -/
theorem t64 {n : Nat} (hn : n < 18446744073709551616) : (i64 (n : Int)).toBitVec.toNat = n := by
  show (BitVec.ofNat 64 (c64 (n : Int))).toNat = n
  rw [BitVec.toNat_ofNat]
  unfold c64
  omega
theorem t32 {n : Nat} (hn : n < 4294967296) : (i32 (n : Int)).toBitVec.toNat = n := by
  show (BitVec.ofNat 32 (c32 (n : Int))).toNat = n
  rw [BitVec.toNat_ofNat]
  unfold c32
  omega
theorem p62 : (2 : Nat) ^ 62 = 4611686018427387904 := by decide
theorem p30 : (2 : Nat) ^ 30 = 1073741824 := by decide
theorem lor_n {a b : Nat} (ha : a < 2 ^ 62) (hb : b < 2 ^ 62) : lor (a : Int) (b : Int) = ((a ||| b : Nat) : Int) := by
  have hc : a ||| b < 2 ^ 62 := Nat.or_lt_two_pow ha hb
  rw [p62] at ha hb hc
  have e : i64 (a : Int) ||| i64 (b : Int) = i64 ((a ||| b : Nat) : Int) := by
    apply Int64.toBitVec_inj.1
    rw [Int64.toBitVec_or]
    apply BitVec.eq_of_toNat_eq
    rw [BitVec.toNat_or, t64 (by omega), t64 (by omega), t64 (by omega)]
  unfold lor
  rw [e, i64_w, w64_id (by omega) (by omega)]
theorem lan_n {a b : Nat} (ha : a < 2 ^ 62) (hb : b < 2 ^ 62) : lan (a : Int) (b : Int) = ((a &&& b : Nat) : Int) := by
  have hc : a &&& b < 2 ^ 62 := Nat.and_lt_two_pow a hb
  rw [p62] at ha hb hc
  have e : i64 (a : Int) &&& i64 (b : Int) = i64 ((a &&& b : Nat) : Int) := by
    apply Int64.toBitVec_inj.1
    rw [Int64.toBitVec_and]
    apply BitVec.eq_of_toNat_eq
    rw [BitVec.toNat_and, t64 (by omega), t64 (by omega), t64 (by omega)]
  unfold lan
  rw [e, i64_w, w64_id (by omega) (by omega)]
theorem sm64 : ∀ s : Nat, s < 40 → ((i32 (s : Int)).toInt64 &&& 63).toBitVec.smod 64 = BitVec.ofNat 64 s := by decide +kernel
theorem lsl1 : ∀ s : Nat, s < 40 → lsl 1 (s : Int) = ((2 ^ s : Nat) : Int) := by decide +kernel
theorem lsr_n {a s : Nat} (ha : a < 2 ^ 62) (hs : s < 40) : lsr (a : Int) (s : Int) = ((a >>> s : Nat) : Int) := by
  have hc : a >>> s < 2 ^ 62 := Nat.lt_of_le_of_lt (by rw [Nat.shiftRight_eq_div_pow]; exact Nat.div_le_self _ _) ha
  rw [p62] at ha hc
  have e : i64 (a : Int) >>> ((i32 (s : Int)).toInt64 &&& 63) = i64 ((a >>> s : Nat) : Int) := by
    apply Int64.toBitVec_inj.1
    rw [Int64.toBitVec_shiftRight, sm64 s hs]
    apply BitVec.eq_of_toNat_eq
    have hm : (i64 (a : Int)).toBitVec.msb = false := by
      rw [BitVec.msb_eq_false_iff_two_mul_lt, t64 (by omega)]
      omega
    rw [BitVec.sshiftRight_eq', BitVec.sshiftRight_eq_of_msb_false hm, BitVec.toNat_ushiftRight, t64 (by omega), t64 (by omega), BitVec.toNat_ofNat, Nat.mod_eq_of_lt (by omega)]
  unfold lsr
  rw [e, i64_w]
  generalize a >>> s = x at hc ⊢
  exact w64_id (by omega) (by omega)
theorem bor_n {a b : Nat} (ha : a < 2 ^ 30) (hb : b < 2 ^ 30) : bor (a : Int) (b : Int) = ((a ||| b : Nat) : Int) := by
  have hc : a ||| b < 2 ^ 30 := Nat.or_lt_two_pow ha hb
  rw [p30] at ha hb hc
  have e : i32 (a : Int) ||| i32 (b : Int) = i32 ((a ||| b : Nat) : Int) := by
    apply Int32.toBitVec_inj.1
    rw [Int32.toBitVec_or]
    apply BitVec.eq_of_toNat_eq
    rw [BitVec.toNat_or, t32 (by omega), t32 (by omega), t32 (by omega)]
  unfold bor
  rw [e, i32_w, w32_id (by omega) (by omega)]
theorem ban_n {a b : Nat} (ha : a < 2 ^ 30) (hb : b < 2 ^ 30) : ban (a : Int) (b : Int) = ((a &&& b : Nat) : Int) := by
  have hc : a &&& b < 2 ^ 30 := Nat.and_lt_two_pow a hb
  rw [p30] at ha hb hc
  have e : i32 (a : Int) &&& i32 (b : Int) = i32 ((a &&& b : Nat) : Int) := by
    apply Int32.toBitVec_inj.1
    rw [Int32.toBitVec_and]
    apply BitVec.eq_of_toNat_eq
    rw [BitVec.toNat_and, t32 (by omega), t32 (by omega), t32 (by omega)]
  unfold ban
  rw [e, i32_w, w32_id (by omega) (by omega)]
theorem sm32 : ∀ s : Nat, s < 30 → (i32 (s : Int) &&& 31).toBitVec.smod 32 = BitVec.ofNat 32 s := by decide +kernel
theorem bsl1 : ∀ s : Nat, s < 30 → bsl 1 (s : Int) = ((2 ^ s : Nat) : Int) := by decide +kernel
theorem bsr_n {a s : Nat} (ha : a < 2 ^ 30) (hs : s < 30) : bsr (a : Int) (s : Int) = ((a >>> s : Nat) : Int) := by
  have hc : a >>> s < 2 ^ 30 := Nat.lt_of_le_of_lt (by rw [Nat.shiftRight_eq_div_pow]; exact Nat.div_le_self _ _) ha
  rw [p30] at ha hc
  have e : i32 (a : Int) >>> (i32 (s : Int) &&& 31) = i32 ((a >>> s : Nat) : Int) := by
    apply Int32.toBitVec_inj.1
    rw [Int32.toBitVec_shiftRight, sm32 s hs]
    apply BitVec.eq_of_toNat_eq
    have hm : (i32 (a : Int)).toBitVec.msb = false := by
      rw [BitVec.msb_eq_false_iff_two_mul_lt, t32 (by omega)]
      omega
    rw [BitVec.sshiftRight_eq', BitVec.sshiftRight_eq_of_msb_false hm, BitVec.toNat_ushiftRight, t32 (by omega), t32 (by omega), BitVec.toNat_ofNat, Nat.mod_eq_of_lt (by omega)]
  unfold bsr
  rw [e, i32_w]
  generalize a >>> s = x at hc ⊢
  exact w32_id (by omega) (by omega)
theorem tbit1 (a s : Nat) : (a >>> s) &&& 1 = (a.testBit s).toNat := by
  rw [Nat.testBit_eq_decide_div_mod_eq, Nat.shiftRight_eq_div_pow, Nat.and_one_is_mod]
  rcases Nat.mod_two_eq_zero_or_one (a / 2 ^ s) with h | h <;> rw [h] <;> rfl
theorem lbit {a s : Nat} (ha : a < 2 ^ 62) (hs : s < 40) : csgn (lan (lsr (a : Int) (s : Int)) 1 - 0) ≠ 0 ↔ a.testBit s = true := by
  have h1 : a >>> s < 2 ^ 62 := Nat.lt_of_le_of_lt (by rw [Nat.shiftRight_eq_div_pow]; exact Nat.div_le_self _ _) ha
  rw [lsr_n ha hs, show (1 : Int) = ((1 : Nat) : Int) from rfl, lan_n h1 (by decide), tbit1, Ne, csgn_z]
  cases a.testBit s with
  | true => exact ⟨fun _ => rfl, fun _ h => by have h : ((1 : Nat) : Int) - 0 = 0 := h; omega⟩
  | false => exact ⟨fun h => absurd (show ((0 : Nat) : Int) - 0 = 0 by omega) h, fun h => by cases h⟩
theorem bbit {a s : Nat} (ha : a < 2 ^ 30) (hs : s < 30) : ban (bsr (a : Int) (s : Int)) 1 = ((a.testBit s).toNat : Int) := by
  have h1 : a >>> s < 2 ^ 30 := Nat.lt_of_le_of_lt (by rw [Nat.shiftRight_eq_div_pow]; exact Nat.div_le_self _ _) ha
  rw [bsr_n ha hs, show (1 : Int) = ((1 : Nat) : Int) from rfl, ban_n h1 (by decide), tbit1]
theorem tbor (m s v : Nat) : (m ||| 2 ^ s).testBit v = (m.testBit v || decide (s = v)) := by rw [Nat.testBit_or, Nat.testBit_two_pow]
theorem tblt {m s b : Nat} (hm : m < 2 ^ b) (hs : s < b) : m ||| 2 ^ s < 2 ^ b := Nat.or_lt_two_pow hm (Nat.pow_lt_pow_right (by decide) hs)
/-- hz5 bits of them -/
theorem l31 {m t : Nat} (hm : m < 2 ^ 62) (ht : t < 8) : lan (lsr (m : Int) (5 * (t : Int))) 31 = (((m >>> (5 * t)) % 32 : Nat) : Int) := by
  have h1 : m >>> (5 * t) < 2 ^ 62 := Nat.lt_of_le_of_lt (by rw [Nat.shiftRight_eq_div_pow]; exact Nat.div_le_self _ _) hm
  have e : (5 * (t : Int)) = ((5 * t : Nat) : Int) := by omega
  rw [e, lsr_n hm (by omega), show (31 : Int) = ((31 : Nat) : Int) from rfl, lan_n h1 (by decide), show (31 : Nat) = 2 ^ 5 - 1 from rfl, Nat.and_two_pow_sub_one_eq_mod]
theorem t31 {m t a : Nat} (ha : a < 5) : ((m >>> (5 * t)) % 32).testBit a = m.testBit (a + 5 * t) := by
  rw [show (32 : Nat) = 2 ^ 5 from rfl, Nat.testBit_mod_two_pow, Nat.testBit_shiftRight, Nat.add_comm]
  simp [ha]
theorem two31 : ∀ x : Nat, x < 32 → ∀ q : Nat, q < 5 → ((x ≠ 0 ∧ x ≠ 2 ^ q) ↔ ∃ a : Nat, a < 5 ∧ a ≠ q ∧ x.testBit a = true) := by decide +kernel
end
section
/-! the WITNESS is asked: the class -/
def oth (c : cg) (W P T k : Nat) : Bool := isof c P T k && decide (ohw c k ≠ W)
def alkx (c : cg) (W P Q T k : Nat) : Bool := isof c P T k && (decide (ohw c k ≠ W) && decide (ohq c k = Q))
def ech (c : cg) (W P Q T k : Nat) : Bool := isof c P T k && (decide (ohw c k ≠ W ∧ ohq c k = Q) && decide ((ohw c k : Int) = c (17 + 2 * W) 4))
def lip (c : cg) (P k : Nat) : Bool := decide (ohs c k = 0 ∧ ohp c k = P ∧ trh c (ohp c k) (oht c k) ≠ (ohq c k : Int))
theorem oth_i {c : cg} {W P T k : Nat} : oth c W P T k = true ↔ (ohs c k = 0 ∧ ohp c k = P ∧ oht c k = T) ∧ ohw c k ≠ W := by
  unfold oth
  rw [Bool.and_eq_true, isof_i, decide_eq_true_iff]
theorem alkx_i {c : cg} {W P Q T k : Nat} : alkx c W P Q T k = true ↔ (ohs c k = 0 ∧ ohp c k = P ∧ oht c k = T) ∧ ohw c k ≠ W ∧ ohq c k = Q := by
  unfold alkx
  rw [Bool.and_eq_true, Bool.and_eq_true, isof_i, decide_eq_true_iff, decide_eq_true_iff]
theorem ech_i {c : cg} {W P Q T k : Nat} : ech c W P Q T k = true ↔ (ohs c k = 0 ∧ ohp c k = P ∧ oht c k = T) ∧ (ohw c k ≠ W ∧ ohq c k = Q) ∧ (ohw c k : Int) = c (17 + 2 * W) 4 := by
  unfold ech
  rw [Bool.and_eq_true, Bool.and_eq_true, isof_i, decide_eq_true_iff, decide_eq_true_iff]
theorem lip_i {c : cg} {P k : Nat} : lip c P k = true ↔ ohs c k = 0 ∧ ohp c k = P ∧ trh c (ohp c k) (oht c k) ≠ (ohq c k : Int) := decide_eq_true_iff
theorem cnt_p1 {f : Nat → Bool} {k : Nat} : 0 < cnt f (k + 1) ↔ 0 < cnt f k ∨ f k = true := by
  cases hb : f k with
  | true => rw [cnt_s hb]; exact ⟨fun _ => Or.inr rfl, fun _ => Nat.succ_pos _⟩
  | false => rw [cnt_n hb]; exact ⟨Or.inl, fun h => h.resolve_right (fun e => by cases e)⟩
/-- two PLACES of one HOUR, among the first k -/
def dbk (c : cg) (P k : Nat) : Prop := ∃ T i j : Nat, i < k ∧ j < k ∧ isof c P T i = true ∧ isof c P T j = true ∧ ohq c i ≠ ohq c j
/-- but for what the one who asks keeps -/
def AFR (S : Nat) (c g : cg) : Prop := ∀ i j : Nat, i ≠ S → i ≠ S + 1 → i ≠ S + 2 → g i j = c i j
def AS (S : Nat) (c : cg) (W P k : Nat) (g : cg) : Prop := AFR S c g ∧ (g S 1 = (W : Int) ∧ g S 2 = (P : Int)) ∧ (∃ m : Nat, g S 3 = (m : Int) ∧ m < 2 ^ 8 ∧ ∀ T : Nat, T < 8 → (m.testBit T = true ↔ 0 < cnt (spk c W P T) k)) ∧ (∀ T : Nat, T < 8 → g (S + 1) T = (cnt (oth c W P T) k : Int)) ∧ (∀ Q : Nat, Q < 5 → ∀ T : Nat, T < 8 → g (S + 2) (Q + 5 * T) = (cnt (alkx c W P Q T) k : Int)) ∧ (∃ m : Nat, g S 8 = (m : Int) ∧ m < 2 ^ 40 ∧ ∀ Q : Nat, Q < 5 → ∀ T : Nat, T < 8 → (m.testBit (Q + 5 * T) = true ↔ 0 < cnt (ech c W P Q T) k)) ∧ ((g S 4 = 0 ∧ ¬ dbk c P k) ∨ (g S 4 = 1 ∧ dbk c P k))
def ASL (c : cg) (P k : Nat) (lf : dlf) : Prop := (∃ m : Nat, lf 3 = (2, (m : Int)) ∧ m < 2 ^ 40 ∧ ∀ Q : Nat, Q < 5 → ∀ T : Nat, T < 8 → (m.testBit (Q + 5 * T) = true ↔ 0 < cnt (says c P Q T) k)) ∧ ∃ m : Nat, lf 5 = (0, (m : Int)) ∧ wset c (lip c P) k m
theorem OHC.fr {c g : cg} {k w p q t : Nat} {f s b : Int} (h : OHC c k w p q t f s b) (e : ∀ j : Nat, g (29 + k) j = c (29 + k) j) : OHC g k w p q t f s b := by
  unfold OHC at *
  rw [e, e, e, e, e, e, e]
  exact h
theorem lt40 {a : Nat} (h : a < 2 ^ 40) : a < 2 ^ 62 := Nat.lt_of_lt_of_le h (by decide)
theorem cnt_same {f : Nat → Bool} {k : Nat} {a : Int} (h : a = (cnt f k : Int)) (hf : f k = false) : a = (cnt f (k + 1) : Int) := by rw [cnt_n hf]; exact h
theorem iff_same {f : Nat → Bool} {k : Nat} {p : Prop} (h : p ↔ 0 < cnt f k) (hf : f k = false) : p ↔ 0 < cnt f (k + 1) := by rw [cnt_n hf]; exact h
section Ask
variable {sv : Nat → Int32} {L : Nat} {n : Nat} {lf : dlf} {c c' g g1 : cg} {o : cg × Option cv} {N W P k : Nat}
/-- what is no OATH of this PERSON that STANDS -/
theorem as_skip {S : Nat} (h : AS S c W P k g) (hk : ohs c k ≠ 0 ∨ ohp c k ≠ P) : AS S c W P (k + 1) g := by
  obtain ⟨a1, a2, ⟨m, b1, b2, b3⟩, a4, a5, ⟨e, d1, d2, d3⟩, a7⟩ := h
  refine ⟨a1, a2, ⟨m, b1, b2, fun T hT => iff_same (b3 T hT) (bf (fun q => by have := spk_i.mp q; omega))⟩, fun T hT => cnt_same (a4 T hT) (bf (fun q => by have := oth_i.mp q; omega)), fun Q hQ T hT => cnt_same (a5 Q hQ T hT) (bf (fun q => by have := alkx_i.mp q; omega)), ⟨e, d1, d2, fun Q hQ T hT => iff_same (d3 Q hQ T hT) (bf (fun q => by have := ech_i.mp q; omega))⟩, ?_⟩
  have hky : dbk c P (k + 1) ↔ dbk c P k := by
    constructor
    · intro ⟨T, i, j, i1, j1, i2, j2, n⟩
      have x := isof_i.mp i2
      have y := isof_i.mp j2
      have ni : i ≠ k := fun q => by rw [q] at x; omega
      have nj : j ≠ k := fun q => by rw [q] at y; omega
      exact ⟨T, i, j, by omega, by omega, i2, j2, n⟩
    · intro ⟨T, i, j, i1, j1, r⟩
      exact ⟨T, i, j, by omega, by omega, r⟩
  rw [hky]
  exact a7
theorem asl_skip (h : ASL c P k lf) {lf' : dlf} (e3 : lf' 3 = lf 3) (e5 : lf' 5 = lf 5) (hk : ohs c k ≠ 0 ∨ ohp c k ≠ P) : ASL c P (k + 1) lf' := by
  obtain ⟨⟨m, b1, b2, b3⟩, m', d1, d2⟩ := h
  exact ⟨⟨m, e3.trans b1, b2, fun Q hQ T hT => iff_same (b3 Q hQ T hT) (bf (fun q => by have := says_i.mp q; omega))⟩, m', e5.trans d1, wset_n d2 (bf (fun q => by have := lip_i.mp q; omega))⟩
/-- it is heard -/
theorem as_hear {D : Int} (h : AS 92 c W P k g) (hV : OHV c N) (hN : N ≤ 16) (hk : k < N) (hW : W ≤ 5) (hs : ohs c k = 0) (hp : ohp c k = P) (hD : (D = 0 ∧ ¬ dbk c P (k + 1)) ∨ (D = 1 ∧ dbk c P (k + 1))) (hh : zr sv L n 93 0 (darg 0 [(4, 92), (4, 29 + ((k : Int)))]) [] (cup g 92 4 D) (g1, none)) : AS 92 c W P (k + 1) g1 := by
  obtain ⟨a1, ⟨a2, a3⟩, ⟨m, b1, b2, b3⟩, a4, a5, ⟨e, d1, d2, d3⟩, -⟩ := h
  obtain ⟨v1, v2, v3, v4, v5⟩ := hV k hk
  have hx := a4 (oht c k) (by omega)
  have hy := a5 (ohq c k) (by omega) (oht c k) (by omega)
  have lx := cnt_le (f := oth c W P (oht c k)) k
  have ly := cnt_le (f := alkx c W P (ohq c k) (oht c k)) k
  have st : isof c P (oht c k) k = true := isof_i.mpr ⟨hs, hp, rfl⟩
  have G : ∀ i j : Nat, i ≠ 92 → cup g 92 4 D i j = g i j := fun i j hi => cup_ne (fun q => hi q.1)
  have hhh := t_hear_92 (x := cnt (oth c W P (oht c k)) k) (y := cnt (alkx c W P (ohq c k) (oht c k)) k) (tw := c (17 + 2 * W) 4) hW (show P ≤ 5 by omega) v2 v3 v4 v5 (by omega) (by omega) (by omega) (by rw [cup_ne (by omega)]; exact a2) (by rw [cup_ne (by omega)]; exact a3) (v1.fr (fun j => by rw [G _ _ (by omega)]; exact a1 _ _ (by omega) (by omega) (by omega))) (by rw [G _ _ (by omega)]; exact a1 _ _ (by omega) (by omega) (by omega)) (by rw [G _ _ (by omega)]; exact hx) (by rw [G _ _ (by omega)]; exact hy) hh rfl rfl
  rcases hhh with ⟨⟨z1, z2⟩, q⟩ | ⟨⟨z1, z2⟩, q⟩ | ⟨z, q⟩
  · have q := oV q
    have nw : ohw c k ≠ W := nt_ne z1
    refine ⟨fun i j i1 i2 i3 => by rw [q, cup_ne (by omega), cup_ne (by omega), G _ _ i1]; exact a1 i j i1 i2 i3, ⟨by rw [q, cup_ne (by omega), cup_ne (by omega), cup_ne (by omega)]; exact a2, by rw [q, cup_ne (by omega), cup_ne (by omega), cup_ne (by omega)]; exact a3⟩, ⟨m, by rw [q, cup_ne (by omega), cup_ne (by omega), cup_ne (by omega)]; exact b1, b2, fun T hT => iff_same (b3 T hT) (bf (fun q => by have := spk_i.mp q; omega))⟩, fun T hT => ?_, fun Q hQ T hT => ?_, ⟨e, by rw [q, cup_ne (by omega), cup_ne (by omega), cup_ne (by omega)]; exact d1, d2, fun Q hQ T hT => iff_same (d3 Q hQ T hT) (bf (fun q => by have := (ech_i.mp q).2.2; omega))⟩, ?_⟩
    · rw [q, cup_ne (by omega)]
      by_cases e : T = oht c k
      · rw [e, cup_at, cnt_s (oth_i.mpr ⟨⟨hs, hp, rfl⟩, nw⟩)]; omega
      · rw [cup_ne (by omega), G _ _ (by omega)]
        exact cnt_same (a4 T hT) (bf (fun q => by have := (oth_i.mp q).1.2.2; omega))
    · rw [q]
      by_cases e : Q = ohq c k ∧ T = oht c k
      · rw [e.1, e.2, cup_at, cnt_s (alkx_i.mpr ⟨⟨hs, hp, rfl⟩, nw, rfl⟩)]; omega
      · rw [cup_ne (by omega), cup_ne (by omega), G _ _ (by omega)]
        exact cnt_same (a5 Q hQ T hT) (bf (fun q => by have := alkx_i.mp q; omega))
    · rw [q, cup_ne (by omega), cup_ne (by omega), cup_at]; exact hD
  · have q := oV q
    have nw : ohw c k ≠ W := nt_ne z1
    refine ⟨fun i j i1 i2 i3 => by rw [q, cup_ne (by omega), cup_ne (by omega), cup_ne (by omega), G _ _ i1]; exact a1 i j i1 i2 i3, ⟨by rw [q, cup_ne (by omega), cup_ne (by omega), cup_ne (by omega), cup_ne (by omega)]; exact a2, by rw [q, cup_ne (by omega), cup_ne (by omega), cup_ne (by omega), cup_ne (by omega)]; exact a3⟩, ⟨m, by rw [q, cup_ne (by omega), cup_ne (by omega), cup_ne (by omega), cup_ne (by omega)]; exact b1, b2, fun T hT => iff_same (b3 T hT) (bf (fun q => by have := spk_i.mp q; omega))⟩, fun T hT => ?_, fun Q hQ T hT => ?_, ⟨e ||| 2 ^ (ohq c k + 5 * oht c k), ?_, tblt d2 (by omega), fun Q hQ T hT => ?_⟩, ?_⟩
    · rw [q, cup_ne (by omega), cup_ne (by omega)]
      by_cases e : T = oht c k
      · rw [e, cup_at, cnt_s (oth_i.mpr ⟨⟨hs, hp, rfl⟩, nw⟩)]; omega
      · rw [cup_ne (by omega), G _ _ (by omega)]
        exact cnt_same (a4 T hT) (bf (fun q => by have := (oth_i.mp q).1.2.2; omega))
    · rw [q, cup_ne (by omega)]
      by_cases e : Q = ohq c k ∧ T = oht c k
      · rw [e.1, e.2, cup_at, cnt_s (alkx_i.mpr ⟨⟨hs, hp, rfl⟩, nw, rfl⟩)]; omega
      · rw [cup_ne (by omega), cup_ne (by omega), G _ _ (by omega)]
        exact cnt_same (a5 Q hQ T hT) (bf (fun q => by have := alkx_i.mp q; omega))
    · rw [q, cup_at, cup_ne (by omega), d1, show ((ohq c k : Int) + 5 * (oht c k : Int)) = ((ohq c k + 5 * oht c k : Nat) : Int) by omega, lsl1 _ (by omega), lor_n (lt40 d2) (lt40 (Nat.pow_lt_pow_right (by decide) (by omega)))]
    · rw [tbor, Bool.or_eq_true, d3 Q hQ T hT, cnt_p1, decide_eq_true_iff]
      constructor
      · rintro (x | x)
        · exact Or.inl x
        · exact Or.inr (ech_i.mpr ⟨⟨hs, hp, by omega⟩, ⟨nw, by omega⟩, z2⟩)
      · rintro (x | x)
        · exact Or.inl x
        · have := ech_i.mp x
          exact Or.inr (by omega)
    · rw [q, cup_ne (by omega), cup_ne (by omega), cup_ne (by omega), cup_at]; exact hD
  · have q := oV q
    have nw : ohw c k = W := by omega
    refine ⟨fun i j i1 i2 i3 => by rw [q, cup_ne (by omega), G _ _ i1]; exact a1 i j i1 i2 i3, ⟨by rw [q, cup_ne (by omega), cup_ne (by omega)]; exact a2, by rw [q, cup_ne (by omega), cup_ne (by omega)]; exact a3⟩, ⟨m ||| 2 ^ oht c k, ?_, tblt b2 (by omega), fun T hT => ?_⟩, fun T hT => ?_, fun Q hQ T hT => ?_, ⟨e, by rw [q, cup_ne (by omega), cup_ne (by omega)]; exact d1, d2, fun Q hQ T hT => iff_same (d3 Q hQ T hT) (bf (fun q => by have := (ech_i.mp q).2.1; omega))⟩, ?_⟩
    · have p8 : (2 : Nat) ^ 8 ≤ 2 ^ 30 := by decide
      rw [q, cup_at, cup_ne (by omega), b1, bsl1 _ (by omega), bor_n (Nat.lt_of_lt_of_le b2 p8) (Nat.pow_lt_pow_right (by decide) (by omega))]
    · rw [tbor, Bool.or_eq_true, b3 T hT, cnt_p1, decide_eq_true_iff]
      constructor
      · rintro (x | x)
        · exact Or.inl x
        · exact Or.inr (spk_i.mpr ⟨hs, hp, x, nw⟩)
      · rintro (x | x)
        · exact Or.inl x
        · exact Or.inr (spk_i.mp x).2.2.1
    · rw [q, cup_ne (by omega), G _ _ (by omega)]
      exact cnt_same (a4 T hT) (bf (fun q => by have := (oth_i.mp q).2; omega))
    · rw [q, cup_ne (by omega), G _ _ (by omega)]
      exact cnt_same (a5 Q hQ T hT) (bf (fun q => by have := (alkx_i.mp q).2.1; omega))
    · rw [q, cup_ne (by omega), cup_at]; exact hD
end Ask
theorem and6 : ∀ a : Nat, a < 64 → ∀ b : Nat, b < 64 → (ban (a : Int) (b : Int) ≠ 0 ↔ ∃ v : Nat, v < 6 ∧ a.testBit v = true ∧ b.testBit v = true) := by decide +kernel
def FR6 (c : cg) (nq : Nat) : Prop := ∀ i : Nat, i < nq → ∃ m : Nat, m < 64 ∧ c (17 + 2 * i) 5 = (m : Int)
def ASD (c c' : cg) (N W P : Nat) : Prop := AS 92 c W P N c' ∧ ((c' 92 5 = 0 ∧ ¬ 0 < cnt (lfr c W P) N) ∨ (c' 92 5 = 1 ∧ 0 < cnt (lfr c W P) N))
section Ask2
variable {sv : Nat → Int32} {L : Nat} {n : Nat} {lf : dlf} {c c' g g1 : cg} {o : cg × Option cv} {N W P k nq : Nat}
theorem dbk_s (hs : ohs c k = 0) (hp : ohp c k = P) : dbk c P (k + 1) ↔ dbk c P k ∨ ∃ i : Nat, i < k ∧ isof c P (oht c k) i = true ∧ ohq c i ≠ ohq c k := by
  constructor
  · intro ⟨T, i, j, i1, j1, i2, j2, hn⟩
    have x := isof_i.mp i2
    have y := isof_i.mp j2
    by_cases qi : i = k
    · have nj : j ≠ k := fun q => hn (by rw [qi, q])
      rw [qi] at x hn
      exact Or.inr ⟨j, by omega, by rw [x.2.2]; exact j2, fun e => hn e.symm⟩
    · by_cases qj : j = k
      · rw [qj] at y hn
        exact Or.inr ⟨i, by omega, by rw [y.2.2]; exact i2, hn⟩
      · exact Or.inl ⟨T, i, j, by omega, by omega, i2, j2, hn⟩
  · rintro (⟨T, i, j, i1, j1, r⟩ | ⟨i, i1, i2, i3⟩)
    · exact ⟨T, i, j, by omega, by omega, r⟩
    · exact ⟨oht c k, i, k, by omega, by omega, i2, isof_i.mpr ⟨hs, hp, rfl⟩, i3⟩
/-- what was said of that HOUR, of another PLACE -/
theorem said_o {m : Nat} (hV : OHV c N) (hk : k < N) (hm : m < 2 ^ 40) (hb : ∀ Q : Nat, Q < 5 → ∀ T : Nat, T < 8 → (m.testBit (Q + 5 * T) = true ↔ 0 < cnt (says c P Q T) k)) : ((m >>> (5 * oht c k)) % 32 ≠ 0 ∧ (m >>> (5 * oht c k)) % 32 ≠ 2 ^ ohq c k) ↔ ∃ i : Nat, i < k ∧ isof c P (oht c k) i = true ∧ ohq c i ≠ ohq c k := by
  obtain ⟨v1, v2, v3, v4, v5⟩ := hV k hk
  rw [two31 _ (Nat.mod_lt _ (by decide)) _ (by omega)]
  constructor
  · intro ⟨a, a1, a2, a3⟩
    rw [t31 a1, hb a a1 _ (by omega), cnt_pos] at a3
    obtain ⟨i, i1, i2⟩ := a3
    have x := says_i.mp i2
    exact ⟨i, i1, isof_i.mpr ⟨x.1, x.2.1, x.2.2.1⟩, by omega⟩
  · intro ⟨i, i1, i2, i3⟩
    obtain ⟨-, -, -, u4, -⟩ := hV i (by omega)
    have x := isof_i.mp i2
    refine ⟨ohq c i, by omega, i3, ?_⟩
    rw [t31 (by omega), hb _ (by omega) _ (by omega), cnt_pos]
    exact ⟨i, i1, says_i.mpr ⟨x.1, x.2.1, x.2.2, rfl⟩⟩
theorem ask_ok (hW : W ≤ 5) (hP : P ≤ 5) (hN16 : N ≤ 16) (hN : c 3 9 = (N : Int)) (hV : OHV c N) (hWq : W < nq) (hF : FR6 c nq) (h : zr sv L n 91 0 lf [] c o) (h0 : lf 0 = (4, 92)) (h1 : lf 1 = (0, (W : Int))) (h2 : lf 2 = (0, (P : Int))) : ∃ c', o = (c', none) ∧ ASD c c' N W P := by
  obtain ⟨lf1, a0, a3, h⟩ := t_ask0_92 hW hP h h0 h1 h2
  have s27 : ∃ n lf g, lf 0 = (4, 92) ∧ lf 3 = (0, 0) ∧ (AFR 92 c g ∧ g 92 1 = (W : Int) ∧ g 92 2 = (P : Int) ∧ g 92 3 = 0 ∧ g 92 8 = 0 ∧ g 92 4 = 0 ∧ ∀ T : Nat, T < 8 → g 93 T = 0) ∧ zr sv L n 91 48 lf [] g o := by
    refine zloop (fun k lf g => lf 0 = (4, 92) ∧ lf 3 = (0, (k : Int)) ∧ k ≤ 8 ∧ AFR 92 c g ∧ g 92 1 = (W : Int) ∧ g 92 2 = (P : Int) ∧ g 92 3 = 0 ∧ g 92 8 = 0 ∧ g 92 4 = 0 ∧ ∀ T : Nat, T < k → g 93 T = 0) _ ?_ n 0 lf1 _ ⟨a0, a3, by decide, fun i j i1 _ _ => by rw [cup_ne (by omega), cup_ne (by omega), cup_ne (by omega), cup_ne (by omega), cup_ne (by omega)], by rw [cup_ne (by omega), cup_ne (by omega), cup_ne (by omega), cup_ne (by omega), cup_at], by rw [cup_ne (by omega), cup_ne (by omega), cup_ne (by omega), cup_at], by rw [cup_ne (by omega), cup_ne (by omega), cup_at], by rw [cup_ne (by omega), cup_at], by rw [cup_at], fun T hT => absurd hT (Nat.not_lt_zero T)⟩ h
    intro n k lf g ⟨b0, b3, bk, b4, b5, b6, b7, b8, b9, b10⟩ h
    by_cases hk : k < 8
    · obtain ⟨lf2, y0, y3, h⟩ := t_ask27s_92 (by omega) h b0 b3
      exact Or.inr ⟨lf2, _, ⟨y0, by rw [y3]; exact congrArg _ (Int.add_comm _ _), by omega, fun i j i1 i2 i3 => by rw [cup_ne (by omega)]; exact b4 i j i1 i2 i3, by rw [cup_ne (by omega)]; exact b5, by rw [cup_ne (by omega)]; exact b6, by rw [cup_ne (by omega)]; exact b7, by rw [cup_ne (by omega)]; exact b8, by rw [cup_ne (by omega)]; exact b9, fun T hT => by
        by_cases e : T = k
        · rw [e, cup_at]
        · rw [cup_ne (by omega)]; exact b10 T (by omega)⟩, h⟩
    · have : k = 8 := by omega
      subst this
      obtain ⟨lf2, y0, y3, h⟩ := t_ask27e_92 h b0 b3
      exact Or.inl ⟨n, lf2, g, y0, y3, ⟨b4, b5, b6, b7, b8, b9, b10⟩, h⟩
  obtain ⟨n, lf2, g, c0, c3, hg, h⟩ := s27
  have s48 : ∃ n lf g, lf 0 = (4, 92) ∧ lf 3 = (2, 0) ∧ lf 5 = (0, 0) ∧ lf 6 = (0, 0) ∧ (AFR 92 c g ∧ g 92 1 = (W : Int) ∧ g 92 2 = (P : Int) ∧ g 92 3 = 0 ∧ g 92 8 = 0 ∧ g 92 4 = 0 ∧ (∀ T : Nat, T < 8 → g 93 T = 0) ∧ ∀ T : Nat, T < 40 → g 94 T = 0) ∧ zr sv L n 91 75 lf [] g o := by
    refine zloop (fun k lf g => lf 0 = (4, 92) ∧ lf 3 = (0, (k : Int)) ∧ k ≤ 40 ∧ AFR 92 c g ∧ g 92 1 = (W : Int) ∧ g 92 2 = (P : Int) ∧ g 92 3 = 0 ∧ g 92 8 = 0 ∧ g 92 4 = 0 ∧ (∀ T : Nat, T < 8 → g 93 T = 0) ∧ ∀ T : Nat, T < k → g 94 T = 0) _ ?_ n 0 lf2 g ⟨c0, c3, by decide, hg.1, hg.2.1, hg.2.2.1, hg.2.2.2.1, hg.2.2.2.2.1, hg.2.2.2.2.2.1, hg.2.2.2.2.2.2, fun T hT => absurd hT (Nat.not_lt_zero T)⟩ h
    intro n k lf g ⟨b0, b3, bk, b4, b5, b6, b7, b8, b9, b10, b11⟩ h
    by_cases hk : k < 40
    · obtain ⟨lf2, y0, y3, h⟩ := t_ask48s_92 (by omega) h b0 b3
      exact Or.inr ⟨lf2, _, ⟨y0, by rw [y3]; exact congrArg _ (Int.add_comm _ _), by omega, fun i j i1 i2 i3 => by rw [cup_ne (by omega)]; exact b4 i j i1 i2 i3, by rw [cup_ne (by omega)]; exact b5, by rw [cup_ne (by omega)]; exact b6, by rw [cup_ne (by omega)]; exact b7, by rw [cup_ne (by omega)]; exact b8, by rw [cup_ne (by omega)]; exact b9, fun T hT => by rw [cup_ne (by omega)]; exact b10 T hT, fun T hT => by
        by_cases e : T = k
        · rw [e, cup_at]
        · rw [cup_ne (by omega)]; exact b11 T (by omega)⟩, h⟩
    · have : k = 40 := by omega
      subst this
      obtain ⟨lf2, y0, y3, y5, y6, h⟩ := t_ask48e_92 h b0 b3
      exact Or.inl ⟨n, lf2, g, y0, y3, y5, y6, ⟨b4, b5, b6, b7, b8, b9, b10, b11⟩, h⟩
  obtain ⟨n, lf3, g, d0, d3, d5, d6, ⟨e1, e2, e3, e4, e5, e6, e7, e8⟩, h⟩ := s48
  have z0 : ∀ {a : Nat}, (0 : Nat).testBit a = true ↔ 0 < (0 : Nat) := fun {a} => by rw [Nat.zero_testBit]; exact ⟨fun q => (by cases q), fun q => absurd q (Nat.lt_irrefl 0)⟩
  refine zloop (fun k lf g => k ≤ N ∧ lf 0 = (4, 92) ∧ lf 6 = (0, (k : Int)) ∧ AS 92 c W P k g ∧ ASL c P k lf) _ ?_ n 0 lf3 g ⟨by omega, d0, d6, ⟨e1, ⟨e2, e3⟩, ⟨0, e4, by decide, fun _ _ => z0⟩, e7, fun Q hQ T hT => e8 _ (by omega), ⟨0, e5, by decide, fun _ _ _ _ => z0⟩, Or.inl ⟨e6, fun ⟨_, i, _, hi, _⟩ => absurd hi (Nat.not_lt_zero i)⟩⟩, ⟨0, d3, by decide, fun _ _ _ _ => z0⟩, 0, d5, wset0⟩ h
  intro n k lf g ⟨hk, b0, b6, hA, hB⟩ h
  have gN : g 3 9 = (N : Int) := by rw [hA.1 3 9 (by decide) (by decide) (by decide)]; exact hN
  by_cases hlt : k < N
  · obtain ⟨v1, v2, v3, v4, v5⟩ := hV k hlt
    have hA' := hA
    have hB' := hB
    obtain ⟨a1, ⟨a2, a3⟩, -, -, -, -, a7⟩ := hA
    obtain ⟨⟨m, x1, x2, x3⟩, l, y1, y2⟩ := hB
    have hnxt : ∀ {D : Int} {lf' : dlf} {g1 : cg} {l' : Nat}, ohs c k = 0 → ohp c k = P → ((D = 0 ∧ ¬ dbk c P (k + 1)) ∨ (D = 1 ∧ dbk c P (k + 1))) → wset c (lip c P) (k + 1) l' → zr sv L n 93 0 (darg 0 [(4, 92), (4, 29 + ((k : Int)))]) [] (cup g 92 4 D) (g1, none) → lf' 0 = (4, 92) → lf' 3 = (2, lor (m : Int) (lsl 1 ((ohq c k : Int) + 5 * (oht c k : Int)))) → lf' 5 = (0, (l' : Int)) → lf' 6 = (0, 1 + (k : Int)) → (k + 1 ≤ N ∧ lf' 0 = (4, 92) ∧ lf' 6 = (0, ((k + 1 : Nat) : Int)) ∧ AS 92 c W P (k + 1) g1 ∧ ASL c P (k + 1) lf') := by
      intro D lf' g1 l' hs hp hD hl' hh w0 w3 w5 w6
      refine ⟨hlt, w0, by rw [w6]; exact congrArg _ (Int.add_comm _ _), as_hear hA' hV hN16 hlt hW hs hp hD hh, ⟨m ||| 2 ^ (ohq c k + 5 * oht c k), ?_, tblt x2 (by omega), fun Q hQ T hT => ?_⟩, l', w5, hl'⟩
      · rw [w3, show ((ohq c k : Int) + 5 * (oht c k : Int)) = ((ohq c k + 5 * oht c k : Nat) : Int) by omega, lsl1 _ (by omega), lor_n (lt40 x2) (lt40 (Nat.pow_lt_pow_right (by decide) (by omega)))]
      · rw [tbor, Bool.or_eq_true, x3 Q hQ T hT, cnt_p1, decide_eq_true_iff]
        constructor
        · rintro (x | x)
          · exact Or.inl x
          · exact Or.inr (says_i.mpr ⟨hs, hp, by omega, by omega⟩)
        · rintro (x | x)
          · exact Or.inl x
          · have := says_i.mp x
            exact Or.inr (by omega)
    have hX := l31 (t := oht c k) (lt40 x2) (by omega)
    have hsd := said_o hV hlt x2 x3
    have e2 := lsl1 (ohq c k) (by omega)
    have stp := t_ask75s_92 hW hP v2 v3 v4 v5 (by omega) hN16 gN a2 a3 (v1.fr (fun j => a1 _ _ (by omega) (by omega) (by omega))) (show g (18 + 2 * ohp c k) (oht c k) = trh c (ohp c k) (oht c k) from a1 _ _ (by omega) (by omega) (by omega)) hlt h b0 x1 y1 b6
    rw [hX, e2] at stp
    generalize hXe : (m >>> (5 * oht c k)) % 32 = X at stp hsd
    generalize hYe : 2 ^ ohq c k = Y at stp hsd
    have no : ohs c k = 0 → ohp c k = P → (csgn ((X : Int) - 0) = 0 ∨ (csgn ((X : Int) - 0) ≠ 0 ∧ csgn ((X : Int) - (Y : Int)) = 0)) → ∀ D : Int, D = bor (g 92 4) 0 → ((D = 0 ∧ ¬ dbk c P (k + 1)) ∨ (D = 1 ∧ dbk c P (k + 1))) := by
      intro hs hp hx D hD
      have hn : ¬ (X ≠ 0 ∧ X ≠ Y) := by
        rintro ⟨p1, p2⟩
        rcases hx with hx | ⟨-, hx⟩
        · have := csgn_z.mp hx; omega
        · have := csgn_z.mp hx; omega
      rw [dbk_s hs hp, ← hsd]
      rcases a7 with ⟨q1, q2⟩ | ⟨q1, q2⟩
      · exact Or.inl ⟨by rw [hD, q1]; rfl, fun q => q.elim q2 hn⟩
      · exact Or.inr ⟨by rw [hD, q1]; rfl, Or.inl q2⟩
    have hyes : ohs c k = 0 → ohp c k = P → csgn ((X : Int) - 0) ≠ 0 → csgn ((X : Int) - (Y : Int)) ≠ 0 → ∀ D : Int, D = bor (g 92 4) 1 → ((D = 0 ∧ ¬ dbk c P (k + 1)) ∨ (D = 1 ∧ dbk c P (k + 1))) := by
      intro hs hp h1 h2 D hD
      have hn : X ≠ 0 ∧ X ≠ Y := ⟨fun e => h1 (csgn_z.mpr (by omega)), fun e => h2 (csgn_z.mpr (by omega))⟩
      refine Or.inr ⟨?_, (dbk_s hs hp).mpr (Or.inr (hsd.mp hn))⟩
      rcases a7 with ⟨q1, -⟩ | ⟨q1, -⟩ <;> rw [hD, q1] <;> rfl
    have lt : ohs c k = 0 → ohp c k = P → trh c (ohp c k) (oht c k) = (ohq c k : Int) → ∀ z : Int, z = bor (l : Int) 0 → ∃ l' : Nat, z = (l' : Int) ∧ wset c (lip c P) (k + 1) l' := fun hs hp hv z hz => ⟨l, by rw [hz, bor0 _ y2.1], wset_n y2 (bf (fun q => (lip_i.mp q).2.2 hv))⟩
    have ll : ohs c k = 0 → ohp c k = P → trh c (ohp c k) (oht c k) ≠ (ohq c k : Int) → ∀ z : Int, z = bor (l : Int) (bsl 1 (ohw c k : Int)) → ∃ l' : Nat, z = (l' : Int) ∧ wset c (lip c P) (k + 1) l' := fun hs hp hv z hz => ⟨_, by rw [hz, (bor6 _ y2.1 _ (by omega)).1], wset_s y2 (lip_i.mpr ⟨hs, hp, hv⟩) v2⟩
    rcases stp with ⟨z, lf2, w0, w3, w5, w6, h⟩ | ⟨z, g2, kh, lf2, w0, w3, w5, w6, h⟩ | ⟨z, g2, kh, lf2, w0, w3, w5, w6, h⟩ | ⟨z, g2, kh, lf2, w0, w3, w5, w6, h⟩ | ⟨z, g2, kh, lf2, w0, w3, w5, w6, h⟩
    · exact Or.inr ⟨lf2, _, ⟨hlt, w0, by rw [w6]; exact congrArg _ (Int.add_comm _ _), as_skip hA' (by omega), asl_skip hB' (by rw [w3, x1]) (by rw [w5, y1]) (by omega)⟩, h⟩
    · have hs : ohs c k = 0 := by rcases z with z | z <;> exact z.1
      have hp : ohp c k = P := by rcases z with z | z <;> have := z.2.1 <;> omega
      obtain ⟨l', q1, q2⟩ := ll hs hp (by rcases z with ⟨-, -, -, z⟩ | ⟨-, -, -, -, z⟩ <;> exact z) _ rfl
      rw [q1] at w5
      exact Or.inr ⟨lf2, _, hnxt hs hp (no hs hp (by rcases z with ⟨-, -, z, -⟩ | ⟨-, -, z, z', -⟩; exact Or.inl z; exact Or.inr ⟨z, z'⟩) _ rfl) q2 kh w0 w3 w5 w6, h⟩
    · have hs : ohs c k = 0 := by rcases z with z | z <;> exact z.1
      have hp : ohp c k = P := by rcases z with z | z <;> have := z.2.1 <;> omega
      obtain ⟨l', q1, q2⟩ := lt hs hp (by rcases z with ⟨-, -, -, z⟩ | ⟨-, -, -, -, z⟩ <;> exact z) _ rfl
      rw [q1] at w5
      exact Or.inr ⟨lf2, _, hnxt hs hp (no hs hp (by rcases z with ⟨-, -, z, -⟩ | ⟨-, -, z, z', -⟩; exact Or.inl z; exact Or.inr ⟨z, z'⟩) _ rfl) q2 kh w0 w3 w5 w6, h⟩
    · obtain ⟨hs, hp, z1, z2, z3⟩ := z
      have hp : ohp c k = P := by omega
      obtain ⟨l', q1, q2⟩ := ll hs hp z3 _ rfl
      rw [q1] at w5
      exact Or.inr ⟨lf2, _, hnxt hs hp (hyes hs hp z1 z2 _ rfl) q2 kh w0 w3 w5 w6, h⟩
    · obtain ⟨hs, hp, z1, z2, z3⟩ := z
      have hp : ohp c k = P := by omega
      obtain ⟨l', q1, q2⟩ := lt hs hp z3 _ rfl
      rw [q1] at w5
      exact Or.inr ⟨lf2, _, hnxt hs hp (hyes hs hp z1 z2 _ rfl) q2 kh w0 w3 w5 w6, h⟩
  · have ek : k = N := by omega
    subst ek
    have hA0 := hA
    obtain ⟨a1, ⟨a2, a3⟩, -⟩ := hA
    obtain ⟨⟨m, x1, -, -⟩, l, y1, y2⟩ := hB
    obtain ⟨fr, f1, f2⟩ := hF W hWq
    have hfr : g (17 + 2 * W) 5 = (fr : Int) := by rw [a1 _ _ (by omega) (by omega) (by omega)]; exact f2
    have hky : ban (fr : Int) (l : Int) ≠ 0 ↔ 0 < cnt (lfr c W P) k := by
      rw [and6 fr f1 l y2.1, cnt_pos]
      constructor
      · intro ⟨v, w1, w2, w3⟩
        obtain ⟨i, i1, i2, i3⟩ := (y2.2 v w1).mp w3
        have x := lip_i.mp i2
        refine ⟨i, i1, lfr_i.mpr ⟨x.1, x.2.2, x.2.1, ?_⟩⟩
        rw [f2, i3]
        exact ((isb6 fr f1 v w1).1).mpr w2
      · intro ⟨i, i1, i2⟩
        have x := lfr_i.mp i2
        obtain ⟨-, v2, -, -, -⟩ := hV i i1
        have b := x.2.2.2
        rw [f2] at b
        exact ⟨ohw c i, by omega, ((isb6 fr f1 _ (by omega)).1).mp b, (y2.2 _ (by omega)).mpr ⟨i, i1, lip_i.mpr ⟨x.1, x.2.2.1, x.2.1⟩, rfl⟩⟩
    have hput : ∀ z : Int, ((z = 0 ∧ ¬ 0 < cnt (lfr c W P) k) ∨ (z = 1 ∧ 0 < cnt (lfr c W P) k)) → ASD c (cup g 92 5 z) k W P := by
      intro z hz
      obtain ⟨b1, ⟨b2, b3⟩, ⟨m1, c1, c2, c3⟩, b5, b6, ⟨m2, d1, d2, d3⟩, b8⟩ := hA0
      refine ⟨⟨fun i j i1 i2 i3 => by rw [cup_ne (by omega)]; exact b1 i j i1 i2 i3, ⟨by rw [cup_ne (by omega)]; exact b2, by rw [cup_ne (by omega)]; exact b3⟩, ⟨m1, by rw [cup_ne (by omega)]; exact c1, c2, c3⟩, fun T hT => by rw [cup_ne (by omega)]; exact b5 T hT, fun Q hQ T hT => by rw [cup_ne (by omega)]; exact b6 Q hQ T hT, ⟨m2, by rw [cup_ne (by omega)]; exact d1, d2, d3⟩, by rw [cup_ne (by omega)]; exact b8⟩, by rw [cup_at]; exact hz⟩
    rcases t_ask75e_92 hW hP hN16 hN16 gN a2 a3 hfr (Nat.le_refl _) h b0 x1 y1 b6 with ⟨z, e⟩ | ⟨z, e⟩
    · exact Or.inl ⟨_, e, hput 0 (Or.inl ⟨rfl, fun q => hky.mpr q z⟩)⟩
    · exact Or.inl ⟨_, e, hput 1 (Or.inr ⟨rfl, hky.mp z⟩)⟩
end Ask2
end
section
/-! the FEE and WHY by what was heard: the class -/
theorem oag {c : cg} {W P Q T : Nat} (N : Nat) : (cnt (oth c W P T) N : Int) - (cnt (alkx c W P Q T) N : Int) = (cnt (gns c W P Q T) N : Int) := by
  have h := cnt_split (f := oth c W P T) (e := fun k => decide (ohq c k = Q)) N
  rw [cnt_congr (f := fun i => oth c W P T i && decide (ohq c i = Q)) (f' := alkx c W P Q T) N (fun i _ => Bool.and_assoc _ _ _), cnt_congr (f := fun i => oth c W P T i && !decide (ohq c i = Q)) (f' := gns c W P Q T) N (fun i _ => by
    unfold oth gns
    rw [decide_not (p := ohq c i = Q)]
    cases isof c P T i <;> cases decide (ohw c i ≠ W) <;> cases decide (ohq c i = Q) <;> rfl)] at h
  omega
section Hind
variable {sv : Nat → Int32} {L : Nat} {n : Nat} {lf : dlf} {c c' : cg} {o : cg × Option cv} {N W P Q T nq : Nat}
theorem echo_i (hA : AS 92 c W P N c') (hV : OHV c N) (hQ : Q ≤ 4) (hT : T ≤ 7) (htw : c (17 + 2 * W) 4 ≠ (W : Int)) : csgn (lan (lsr (c' 92 8) ((Q : Int) + 5 * (T : Int))) 1 - 0) ≠ 0 ↔ c (17 + 2 * W) 4 ≠ -1 ∧ 0 < cnt (bkd c P Q T (c (17 + 2 * W) 4)) N := by
  obtain ⟨-, -, -, -, -, ⟨m, d1, d2, d3⟩, -⟩ := hA
  rw [d1, show ((Q : Int) + 5 * (T : Int)) = ((Q + 5 * T : Nat) : Int) by omega, lbit (lt40 d2) (by omega), d3 Q (by omega) T (by omega), cnt_pos, cnt_pos]
  constructor
  · intro ⟨i, i1, i2⟩
    obtain ⟨x1, x2, x3⟩ := ech_i.mp i2
    exact ⟨by omega, i, i1, bkd_i.mpr ⟨⟨x1.1, x1.2.1, x1.2.2, x2.2⟩, Or.inr x3⟩⟩
  · intro ⟨hn, i, i1, i2⟩
    obtain ⟨x1, x2⟩ := bkd_i.mp i2
    have x3 : (ohw c i : Int) = c (17 + 2 * W) 4 := x2.resolve_left hn
    exact ⟨i, i1, ech_i.mpr ⟨⟨x1.1, x1.2.1, x1.2.2.1⟩, ⟨fun e => htw (by rw [← x3, e]), x1.2.2.2⟩, x3⟩⟩
theorem fees_0 (h : trh c P T = (Q : Int) ∨ c (17 + 2 * W) 3 = 1) : fees c N W P Q T = 0 := by unfold fees; rw [if_pos h]
theorem fees_1 (h : trh c P T ≠ (Q : Int)) (h' : c (17 + 2 * W) 3 ≠ 1) (he : ¬ (c (17 + 2 * W) 4 ≠ -1 ∧ 0 < cnt (bkd c P Q T (c (17 + 2 * W) 4)) N)) : fees c N W P Q T = rate c N W P Q T := by unfold fees; rw [if_neg (fun q => q.elim h h'), if_neg he]
theorem fees_2 (h : trh c P T ≠ (Q : Int)) (h' : c (17 + 2 * W) 3 ≠ 1) (he : c (17 + 2 * W) 4 ≠ -1 ∧ 0 < cnt (bkd c P Q T (c (17 + 2 * W) 4)) N) : fees c N W P Q T = qdi (w32 (rate c N W P Q T + 1)) 2 := by unfold fees; rw [if_neg (fun q => q.elim h h'), if_pos he]
/-- what is known of the WITNESS -/
def WOK (c : cg) (W : Nat) : Prop := (c (17 + 2 * W) 3 = 0 ∨ c (17 + 2 * W) 3 = 1) ∧ c (17 + 2 * W) 4 ≠ (W : Int) ∧ 0 ≤ c (17 + 2 * W) 1
theorem price_ok (hA : ASD c c' N W P) (hV : OHV c N) (hw : WOK c W) (hW : W ≤ 5) (hP : P ≤ 5) (hQ : Q ≤ 4) (hT : T ≤ 7) (hN16 : N ≤ 16) (h : zr sv L n 96 0 lf [] c' o) (h0 : lf 0 = (4, 92)) (h1 : lf 1 = (0, (Q : Int))) (h2 : lf 2 = (0, (T : Int))) : o = (c', some (0, fees c N W P Q T)) := by
  have hE := echo_i hA.1 hV hQ hT hw.2.1
  obtain ⟨⟨a1, ⟨a2, a3⟩, -, a5, a6, -, -⟩, -⟩ := hA
  have lx := cnt_le (f := oth c W P T) N
  have ly := cnt_le (f := alkx c W P Q T) N
  have F : ∀ i j : Nat, i < 92 → c' i j = c i j := fun i j hi => a1 i j (by omega) (by omega) (by omega)
  have hp := t_price_92 (x := cnt (oth c W P T) N) (y := cnt (alkx c W P Q T) N) (bi := c (17 + 2 * W) 3) (v := trh c P T) hW hP hQ hT (by omega) (by omega) a2 a3 (F _ _ (by omega)) (a5 T (by omega)) (a6 Q (by omega) T (by omega)) (F _ _ (by omega)) h h0 h1 h2
  rw [oag, F 3 5 (by decide), F 3 6 (by decide)] at hp
  rcases hp with ⟨z, e⟩ | ⟨⟨z1, z2, z3⟩, e⟩ | ⟨⟨z1, z2, z3⟩, e⟩
  · rw [e, fees_0 (by rcases hw.1 with q | q <;> omega)]
  · rw [e, fees_1 z2 (by omega) (fun q => hE.mpr q z3)]; rfl
  · rw [e, fees_2 z2 (by omega) (hE.mp z3)]; rfl
theorem hind_ok (hA : ASD c c' N W P) (hV : OHV c N) (hw : WOK c W) (hW : W ≤ 5) (hP : P ≤ 5) (hQ : Q ≤ 4) (hT : T ≤ 7) (hN16 : N ≤ 16) (hN : c 3 9 = (N : Int)) (h : zr sv L n 94 0 lf [] c' o) (h0 : lf 0 = (4, 92)) (h1 : lf 1 = (0, (Q : Int))) (h2 : lf 2 = (0, (T : Int))) : o = (c', some (0, whys c N W P Q T)) := by
  have hE := echo_i hA.1 hV hQ hT hw.2.1
  obtain ⟨⟨a1, ⟨a2, a3⟩, ⟨m, b1, b2, b3⟩, a5, a6, -, a8⟩, a9⟩ := hA
  have lx := cnt_le (f := oth c W P T) N
  have ly := cnt_le (f := alkx c W P Q T) N
  have F : ∀ i j : Nat, i < 92 → c' i j = c i j := fun i j hi => a1 i j (by omega) (by omega) (by omega)
  have hp := t_hind_92 (x := cnt (oth c W P T) N) (y := cnt (alkx c W P Q T) N) (bi := c (17 + 2 * W) 3) (v := trh c P T) (pu := c (17 + 2 * W) 1) hW hP hQ hT hN16 (by omega) (by omega) (by rw [F _ _ (by decide)]; exact hN) a2 a3 (F _ _ (by omega)) (a5 T (by omega)) (a6 Q (by omega) T (by omega)) (F _ _ (by omega)) (F _ _ (by omega)) h h0 h1 h2
  have p8 : (2 : Nat) ^ 8 ≤ 2 ^ 30 := by decide
  have hb := bbit (a := m) (s := T) (Nat.lt_of_lt_of_le b2 p8) (by omega)
  rw [oag, F 3 5 (by decide), F 3 6 (by decide), b1, hb] at hp
  have hsp : ((m.testBit T).toNat : Int) = 0 → ¬ 0 < cnt (spk c W P T) N := fun e q => by
    rw [← b3 T (by omega)] at q
    rw [q] at e
    cases e
  have hsp' : ((m.testBit T).toNat : Int) ≠ 0 → 0 < cnt (spk c W P T) N := fun e => by
    rw [← b3 T (by omega)]
    cases hq : m.testBit T with
    | true => rfl
    | false => rw [hq] at e; exact absurd rfl e
  have hdb : dbk c P N ↔ 0 < cnt (dbh c P N) 8 := by
    rw [cnt_pos]
    constructor
    · intro ⟨X, i, j, i1, j1, i2, j2, hn⟩
      obtain ⟨-, -, -, -, v5⟩ := hV i i1
      have x := isof_i.mp i2
      exact ⟨X, by omega, (dbh_i hV).mpr ⟨i, i1, j, j1, i2, j2, hn⟩⟩
    · intro ⟨X, hX, hx⟩
      obtain ⟨i, i1, j, j1, i2, j2, hn⟩ := (dbh_i hV).mp hx
      exact ⟨X, i, j, i1, j1, i2, j2, hn⟩
  have hd0 : c' 92 4 = 0 → cnt (dbh c P N) 8 = 0 := fun e => by
    rcases a8 with ⟨x, y⟩ | ⟨x, y⟩
    · rw [hdb] at y; omega
    · omega
  have hd1 : c' 92 4 ≠ 0 → cnt (dbh c P N) 8 ≠ 0 := fun e => by
    rcases a8 with ⟨x, y⟩ | ⟨x, y⟩
    · exact absurd x e
    · rw [hdb] at y; omega
  have hl0 : c' 92 5 = 0 → ¬ 0 < cnt (lfr c W P) N := fun e => by
    rcases a9 with ⟨x, y⟩ | ⟨x, y⟩
    · exact y
    · omega
  have hl1 : c' 92 5 ≠ 0 → 0 < cnt (lfr c W P) N := fun e => by
    rcases a9 with ⟨x, y⟩ | ⟨x, y⟩
    · exact absurd x e
    · exact y
  have hpu := hw.2.2
  have i1 : c (17 + 2 * W) 3 ≠ 0 → fees c N W P Q T = 0 := fun e => fees_0 (Or.inr (hw.1.resolve_left e))
  have i2 : trh c P T ≠ (Q : Int) → c (17 + 2 * W) 3 = 0 → csgn (lan (lsr (c' 92 8) ((Q : Int) + 5 * (T : Int))) 1 - 0) = 0 → fees c N W P Q T = w32 (c 3 5 + w32 (c 3 6 * (cnt (gns c W P Q T) N : Int))) := fun e1 e2 e3 => fees_1 e1 (by omega) (fun q => hE.mpr q e3)
  have i3 : trh c P T ≠ (Q : Int) → c (17 + 2 * W) 3 = 0 → csgn (lan (lsr (c' 92 8) ((Q : Int) + 5 * (T : Int))) 1 - 0) ≠ 0 → fees c N W P Q T = qdi (w32 (w32 (c 3 5 + w32 (c 3 6 * (cnt (gns c W P Q T) N : Int))) + 1)) 2 := fun e1 e2 e3 => fees_2 e1 (by omega) (hE.mp e3)
  have hz0 : (N : Int) < 16 → ((m.testBit T).toNat : Int) = 0 → trh c P T ≠ (Q : Int) → (trh c P T = -1 ∨ c' 92 4 ≠ 0) → c' 92 5 = 0 → fees c N W P Q T ≤ c (17 + 2 * W) 1 → whys c N W P Q T = 0 := by
    intro x1 x2 x3 x4 x5 x6
    unfold whys
    rw [if_neg (by omega), if_neg (hsp x2), if_neg (fun q => x4.elim q.2.1 (fun y => hd1 y q.2.2)), if_neg (fun q => hl0 x5 q.2), if_neg (by omega)]
  have hz5 : (N : Int) < 16 → ((m.testBit T).toNat : Int) = 0 → trh c P T ≠ (Q : Int) → (trh c P T = -1 ∨ c' 92 4 ≠ 0) → c' 92 5 = 0 → c (17 + 2 * W) 1 < fees c N W P Q T → whys c N W P Q T = 5 := by
    intro x1 x2 x3 x4 x5 x6
    unfold whys
    rw [if_neg (by omega), if_neg (hsp x2), if_neg (fun q => x4.elim q.2.1 (fun y => hd1 y q.2.2)), if_neg (fun q => hl0 x5 q.2), if_pos (by omega)]
  have hz4 : (N : Int) < 16 → ((m.testBit T).toNat : Int) = 0 → trh c P T ≠ (Q : Int) → (trh c P T = -1 ∨ c' 92 4 ≠ 0) → c' 92 5 ≠ 0 → whys c N W P Q T = 4 := by
    intro x1 x2 x3 x4 x5
    unfold whys
    rw [if_neg (by omega), if_neg (hsp x2), if_neg (fun q => x4.elim q.2.1 (fun y => hd1 y q.2.2)), if_pos ⟨x3, hl1 x5⟩]
  rcases hp with ⟨z, e⟩ | ⟨z, e⟩ | ⟨z, e⟩ | ⟨⟨z1, z2, z3, z4, z5⟩, e⟩ | ⟨⟨z1, z2⟩, e⟩ | ⟨z, e⟩
  · rw [e]
    rcases z with ⟨z1, z2, z3, z4, z5, z6, z7⟩ | ⟨z1, z2, z3, z4, z5, z6, z7, z8⟩ | ⟨z1, z2, z3, z4, z5, z6, z7, z8⟩ | ⟨z1, z2, z3, z4, z4', z5, z6, z7⟩ | ⟨z1, z2, z3, z4, z4', z5, z6, z7, z8⟩ | ⟨z1, z2, z3, z4, z4', z5, z6, z7, z8⟩ | ⟨z1, z2, z3⟩
    · rw [hz0 z1 z2 z3 (Or.inl z4) z5 (by rw [i1 z6]; exact z7)]
    · rw [hz0 z1 z2 z3 (Or.inl z4) z5 (by rw [i2 z3 z6 z7]; exact z8)]
    · rw [hz0 z1 z2 z3 (Or.inl z4) z5 (by rw [i3 z3 z6 z7]; exact z8)]
    · rw [hz0 z1 z2 z3 (Or.inr z4') z5 (by rw [i1 z6]; exact z7)]
    · rw [hz0 z1 z2 z3 (Or.inr z4') z5 (by rw [i2 z3 z6 z7]; exact z8)]
    · rw [hz0 z1 z2 z3 (Or.inr z4') z5 (by rw [i3 z3 z6 z7]; exact z8)]
    · have hf : fees c N W P Q T = 0 := fees_0 (Or.inl z3)
      unfold whys
      rw [if_neg (by omega), if_neg (hsp z2), if_neg (fun q => q.1 z3), if_neg (fun q => q.1 z3), if_neg (by omega)]
  · rw [e]
    rcases z with ⟨z1, z2, z3, z4, z5, z6, z7⟩ | ⟨z1, z2, z3, z4, z5, z6, z7, z8⟩ | ⟨z1, z2, z3, z4, z5, z6, z7, z8⟩ | ⟨z1, z2, z3, z4, z4', z5, z6, z7⟩ | ⟨z1, z2, z3, z4, z4', z5, z6, z7, z8⟩ | ⟨z1, z2, z3, z4, z4', z5, z6, z7, z8⟩
    · omega
    · rw [hz5 z1 z2 z3 (Or.inl z4) z5 (by rw [i2 z3 z6 z7]; exact z8)]
    · rw [hz5 z1 z2 z3 (Or.inl z4) z5 (by rw [i3 z3 z6 z7]; exact z8)]
    · omega
    · rw [hz5 z1 z2 z3 (Or.inr z4') z5 (by rw [i2 z3 z6 z7]; exact z8)]
    · rw [hz5 z1 z2 z3 (Or.inr z4') z5 (by rw [i3 z3 z6 z7]; exact z8)]
  · rw [e]
    rcases z with ⟨z1, z2, z3, z4, z5⟩ | ⟨z1, z2, z3, z4, z4', z5⟩
    · rw [hz4 z1 z2 z3 (Or.inl z4) z5]
    · rw [hz4 z1 z2 z3 (Or.inr z4') z5]
  · rw [e]
    unfold whys
    rw [if_neg (by omega), if_neg (hsp z2), if_pos ⟨z3, z4, hd0 z5⟩]
  · rw [e]
    unfold whys
    rw [if_neg (by omega), if_pos (hsp' z2)]
  · rw [e]
    unfold whys
    rw [if_pos (by omega)]
end Hind
end
section
/-! both courts hold the same, and are as they can be: the class's by its cells 3 .., the reference's at 0 -/
def rfd (c : cg) (k : Nat) : Bool := decide (c (29 + k) 6 ≠ 0)
def GP (c : cg) (np N i : Nat) : Prop := (c (17 + 2 * i) 2 = 0 ∨ c (17 + 2 * i) 2 = 1) ∧ (c (17 + 2 * i) 3 = 0 ∨ c (17 + 2 * i) 3 = 1) ∧ c (17 + 2 * i) 4 ≠ (i : Int) ∧ (∃ m : Nat, m < 64 ∧ c (17 + 2 * i) 5 = (m : Int)) ∧ (0 ≤ c (17 + 2 * i) 1 ∧ c (17 + 2 * i) 1 ≤ 9999 + 2000 * (cnt (rfd c) N : Int)) ∧ ∀ t : Nat, t < 8 → -1 ≤ trh c i t ∧ trh c i t < (np : Int)
def GO (c : cg) (np nq k : Nat) : Prop := (0 ≤ c (29 + k) 0 ∧ c (29 + k) 0 < (nq : Int)) ∧ (0 ≤ c (29 + k) 1 ∧ c (29 + k) 1 < (nq : Int)) ∧ (0 ≤ c (29 + k) 2 ∧ c (29 + k) 2 < (np : Int)) ∧ (0 ≤ c (29 + k) 3 ∧ c (29 + k) 3 < 8) ∧ (0 ≤ c (29 + k) 4 ∧ c (29 + k) 4 ≤ 2000) ∧ (c (29 + k) 5 = 0 ∨ c (29 + k) 5 = 1 ∨ c (29 + k) 5 = 2) ∧ (c (29 + k) 6 = 0 ∨ c (29 + k) 6 = 1) ∧ (ohs c k = 0 → c (29 + k) 6 ≠ 0 → trh c (ohp c k) (oht c k) = (ohq c k : Int))
def GD (c : cg) (np nq N : Nat) : Prop := ((0 ≤ c 3 5 ∧ c 3 5 ≤ 99) ∧ (0 ≤ c 3 6 ∧ c 3 6 ≤ 99) ∧ (0 ≤ c 3 7 ∧ c 3 7 ≤ 60)) ∧ (∀ i : Nat, i < np → 0 ≤ c 4 i ∧ c 4 i ≤ 60) ∧ (∀ i : Nat, i < nq → GP c np N i) ∧ (∀ k : Nat, k < N → GO c np nq k) ∧ UQ c N
def CT (c d : cg) (np nq N : Nat) : Prop := (np ≤ 5 ∧ nq ≤ 6 ∧ N ≤ 16) ∧ (c 3 0 = (np : Int) ∧ c 3 3 = (nq : Int) ∧ c 3 9 = (N : Int)) ∧ (d 254 0 = (np : Int) ∧ d 254 1 = (nq : Int) ∧ d 254 2 = (N : Int)) ∧ (d 254 3 = c 3 5 ∧ d 254 4 = c 3 6 ∧ d 254 5 = c 3 7 ∧ d 254 6 = c 3 8) ∧ (∀ i : Nat, i < np → d 254 (10 + i) = c 4 i) ∧ PRS c d nq ∧ ∀ k : Nat, k < N → ∀ j : Nat, j < 7 → d 254 (99 + 8 * k + j) = c (29 + k) j
def RD0 (c d : cg) : Prop := ∃ np nq N : Nat, CT c d np nq N ∧ GD c np nq N
theorem GO.v {c : cg} {np nq k : Nat} (h : GO c np nq k) (h5 : np ≤ 5) (h6 : nq ≤ 6) : (c (29 + k) 0 = (ohw c k : Int) ∧ c (29 + k) 1 = (ohp c k : Int) ∧ c (29 + k) 2 = (ohq c k : Int) ∧ c (29 + k) 3 = (oht c k : Int)) ∧ ohw c k < nq ∧ ohp c k < nq ∧ ohq c k < np ∧ oht c k < 8 := by
  obtain ⟨h0, h1, h2, h3, -⟩ := h
  unfold ohw ohp ohq oht
  omega
theorem GD.hv {c : cg} {np nq N : Nat} (h : GD c np nq N) (h5 : np ≤ 5) (h6 : nq ≤ 6) : OHV c N := by
  intro k hk
  obtain ⟨⟨e0, e1, e2, e3⟩, l0, l1, l2, l3⟩ := (h.2.2.2.1 k hk).v h5 h6
  exact ⟨⟨e0, e1, e2, e3, rfl, rfl, rfl⟩, by omega, by omega, by omega, by omega⟩
theorem CT.hr {c d : cg} {np nq N : Nat} (h : CT c d np nq N) (hg : GD c np nq N) : OHR c d N := by
  intro k hk
  obtain ⟨⟨a1, a2, a3⟩, -, -, -, -, -, h7⟩ := h
  obtain ⟨⟨e0, e1, e2, e3⟩, -⟩ := (hg.2.2.2.1 k hk).v a1 a2
  have q := h7 k hk
  refine ⟨?_, ?_, ?_, ?_, ?_, ?_, ?_⟩
  · rw [← e0]; exact q 0 (by decide)
  · rw [show 100 + 8 * k = 99 + 8 * k + 1 by omega, ← e1]; exact q 1 (by decide)
  · rw [show 101 + 8 * k = 99 + 8 * k + 2 by omega, ← e2]; exact q 2 (by decide)
  · rw [show 102 + 8 * k = 99 + 8 * k + 3 by omega, ← e3]; exact q 3 (by decide)
  · rw [show 103 + 8 * k = 99 + 8 * k + 4 by omega]; exact q 4 (by decide)
  · rw [show 104 + 8 * k = 99 + 8 * k + 5 by omega]; exact q 5 (by decide)
  · rw [show 105 + 8 * k = 99 + 8 * k + 6 by omega]; exact q 6 (by decide)
theorem GP.wok {c : cg} {np N i : Nat} (h : GP c np N i) : WOK c i := ⟨h.2.1, h.2.2.1, h.2.2.2.2.1.1⟩
theorem GD.fr6 {c : cg} {np nq N : Nat} (h : GD c np nq N) : FR6 c nq := fun i hi => (h.2.2.1 i hi).2.2.2.1
theorem cnt_up {f f' : Nat → Bool} {k : Nat} : ∀ N : Nat, k < N → f k = false → f' k = true → (∀ i : Nat, i ≠ k → f' i = f i) → cnt f' N = cnt f N + 1
  | 0, h, _, _, _ => absurd h (Nat.not_lt_zero k)
  | N + 1, h, h1, h2, h3 => by
    by_cases e : k = N
    · subst e
      rw [cnt_s h2, cnt_n h1, cnt_congr k (fun i hi => h3 i (by omega))]
    · have := cnt_up N (by omega) h1 h2 h3
      show cnt f' N + (f' N).toNat = cnt f N + (f N).toNat + 1
      rw [h3 N (fun q => e q.symm)]
      omega
/-! moves: where the cells are the same -/
def SCL (c c' : cg) (np nq N : Nat) : Prop := (∀ j : Nat, j ≤ 9 → c' 3 j = c 3 j) ∧ (∀ i : Nat, i < np → c' 4 i = c 4 i) ∧ (∀ i : Nat, i < nq → (∀ j : Nat, 1 ≤ j → j ≤ 5 → c' (17 + 2 * i) j = c (17 + 2 * i) j) ∧ ∀ t : Nat, t < 8 → c' (18 + 2 * i) t = c (18 + 2 * i) t) ∧ ∀ k : Nat, k < N → ∀ j : Nat, j ≤ 6 → c' (29 + k) j = c (29 + k) j
theorem SCL.of {c c' : cg} {np nq N : Nat} (h5 : np ≤ 5) (h6 : nq ≤ 6) (hN : N ≤ 16) (h : ∀ k j : Nat, 3 ≤ k → k < 45 → c' k j = c k j) : SCL c c' np nq N := ⟨fun j _ => h 3 j (by omega) (by omega), fun i _ => h 4 i (by omega) (by omega), fun i hi => ⟨fun j _ _ => h _ j (by omega) (by omega), fun t _ => h _ t (by omega) (by omega)⟩, fun k hk j _ => h _ j (by omega) (by omega)⟩
theorem SCL.o {c c' : cg} {np nq N : Nat} (h : SCL c c' np nq N) {k : Nat} (hk : k < N) : ohw c' k = ohw c k ∧ ohp c' k = ohp c k ∧ ohq c' k = ohq c k ∧ oht c' k = oht c k ∧ ohs c' k = ohs c k := by
  have q := h.2.2.2 k hk
  unfold ohw ohp ohq oht ohs
  rw [q 0 (by decide), q 1 (by decide), q 2 (by decide), q 3 (by decide), q 5 (by decide)]
  exact ⟨rfl, rfl, rfl, rfl, rfl⟩
theorem GD.mv {c c' : cg} {np nq N : Nat} (h5 : np ≤ 5) (h6 : nq ≤ 6) (h : GD c np nq N) (e : SCL c c' np nq N) : GD c' np nq N := by
  obtain ⟨⟨a1, a2, a3⟩, a4, a5, a6, a7⟩ := h
  obtain ⟨e1, e2, e3, e4⟩ := id e
  have hr : cnt (rfd c') N = cnt (rfd c) N := cnt_congr N (fun i hi => by unfold rfd; rw [e4 i hi 6 (by decide)])
  refine ⟨⟨by rw [e1 5 (by decide)]; exact a1, by rw [e1 6 (by decide)]; exact a2, by rw [e1 7 (by decide)]; exact a3⟩, fun i hi => by rw [e2 i hi]; exact a4 i hi, fun i hi => ?_, fun k hk => ?_, fun i k hi hk => ?_⟩
  · obtain ⟨b1, b2, b3, b4, b5, b6⟩ := a5 i hi
    obtain ⟨f1, f2⟩ := e3 i hi
    refine ⟨by rw [f1 2 (by decide) (by decide)]; exact b1, by rw [f1 3 (by decide) (by decide)]; exact b2, by rw [f1 4 (by decide) (by decide)]; exact b3, by rw [f1 5 (by decide) (by decide)]; exact b4, by rw [f1 1 (by decide) (by decide), hr]; exact b5, fun t ht => ?_⟩
    unfold trh
    rw [f2 t ht]
    exact b6 t ht
  · have g := a6 k hk
    obtain ⟨-, l0, l1, l2, l3⟩ := g.v h5 h6
    obtain ⟨b0, b1, b2, b3, b4, b5, b6, b7⟩ := g
    have q := e4 k hk
    obtain ⟨o0, o1, o2, o3, o5⟩ := e.o hk
    refine ⟨by rw [q 0 (by decide)]; exact b0, by rw [q 1 (by decide)]; exact b1, by rw [q 2 (by decide)]; exact b2, by rw [q 3 (by decide)]; exact b3, by rw [q 4 (by decide)]; exact b4, by rw [q 5 (by decide)]; exact b5, by rw [q 6 (by decide)]; exact b6, ?_⟩
    rw [o5, o1, o3, o2, q 6 (by decide)]
    unfold trh
    rw [(e3 _ l1).2 _ l3]
    exact b7
  · obtain ⟨i0, i1, i2, i3, i5⟩ := e.o (show i < N by omega)
    obtain ⟨k0, k1, k2, k3, k5⟩ := e.o hk
    rw [i5, k5, i1, k1, i3, k3, i0, k0]
    exact a7 i k hi hk
theorem CT.mv {c c' d d' : cg} {np nq N : Nat} (h : CT c d np nq N) (e : SCL c c' np nq N) (hd : ∀ j : Nat, j < 260 → d' 254 j = d 254 j) : CT c' d' np nq N := by
  obtain ⟨⟨a1, a2, a3⟩, ⟨b1, b2, b3⟩, ⟨c1, c2, c3⟩, ⟨d1, d2, d3, d4⟩, h5, h6, h7⟩ := h
  obtain ⟨e1, e2, e3, e4⟩ := e
  refine ⟨⟨a1, a2, a3⟩, ⟨by rw [e1 0 (by decide)]; exact b1, by rw [e1 3 (by decide)]; exact b2, by rw [e1 9 (by decide)]; exact b3⟩, ⟨by rw [hd 0 (by decide)]; exact c1, by rw [hd 1 (by decide)]; exact c2, by rw [hd 2 (by decide)]; exact c3⟩, ⟨by rw [hd 3 (by decide), e1 5 (by decide)]; exact d1, by rw [hd 4 (by decide), e1 6 (by decide)]; exact d2, by rw [hd 5 (by decide), e1 7 (by decide)]; exact d3, by rw [hd 6 (by decide), e1 8 (by decide)]; exact d4⟩, fun i hi => by rw [hd _ (by omega), e2 i hi]; exact h5 i hi, fun i hi => ?_, fun k hk j hj => by rw [hd _ (by omega), e4 k hk j (by omega)]; exact h7 k hk j hj⟩
  obtain ⟨⟨p1, p2, p3, p4, p5⟩, p6⟩ := h6 i hi
  obtain ⟨f1, f2⟩ := e3 i hi
  refine ⟨⟨?_, ?_, ?_, ?_, ?_⟩, fun t ht => ?_⟩
  · rw [hd _ (by omega), f1 1 (by decide) (by decide)]; exact p1
  · rw [hd _ (by omega), f1 2 (by decide) (by decide)]; exact p2
  · rw [hd _ (by omega), f1 3 (by decide) (by decide)]; exact p3
  · rw [hd _ (by omega), f1 4 (by decide) (by decide)]; exact p4
  · rw [hd _ (by omega), f1 5 (by decide) (by decide)]; exact p5
  · rw [hd _ (by omega)]
    unfold trh
    rw [f2 t ht]
    exact p6 t ht
/-! one cell of both set to the same -/
theorem CT.oset {c d : cg} {np nq N k j : Nat} (h : CT c d np nq N) (hk : k < 16) (hj : j < 7) (v : Int) : CT (cup c (29 + k) j v) (cup d 254 (99 + 8 * k + j) v) np nq N := by
  obtain ⟨⟨a1, a2, a3⟩, ⟨b1, b2, b3⟩, ⟨c1, c2, c3⟩, ⟨d1, d2, d3, d4⟩, h5, h6, h7⟩ := h
  have C : ∀ x y : Nat, x ≠ 29 + k → cup c (29 + k) j v x y = c x y := fun x y q => cup_ne (fun e => q e.1)
  have D : ∀ y : Nat, y ≠ 99 + 8 * k + j → cup d 254 (99 + 8 * k + j) v 254 y = d 254 y := fun y q => cup_ne (fun e => q e.2)
  refine ⟨⟨a1, a2, a3⟩, ⟨by rw [C _ _ (by omega)]; exact b1, by rw [C _ _ (by omega)]; exact b2, by rw [C _ _ (by omega)]; exact b3⟩, ⟨by rw [D _ (by omega)]; exact c1, by rw [D _ (by omega)]; exact c2, by rw [D _ (by omega)]; exact c3⟩, ⟨by rw [C _ _ (by omega), D _ (by omega)]; exact d1, by rw [C _ _ (by omega), D _ (by omega)]; exact d2, by rw [C _ _ (by omega), D _ (by omega)]; exact d3, by rw [C _ _ (by omega), D _ (by omega)]; exact d4⟩, fun i hi => by rw [C _ _ (by omega), D _ (by omega)]; exact h5 i hi, fun i hi => ?_, fun i hi y hy => ?_⟩
  · obtain ⟨⟨p1, p2, p3, p4, p5⟩, p6⟩ := h6 i hi
    refine ⟨⟨?_, ?_, ?_, ?_, ?_⟩, fun t ht => ?_⟩
    · rw [C _ _ (by omega), D _ (by omega)]; exact p1
    · rw [C _ _ (by omega), D _ (by omega)]; exact p2
    · rw [C _ _ (by omega), D _ (by omega)]; exact p3
    · rw [C _ _ (by omega), D _ (by omega)]; exact p4
    · rw [C _ _ (by omega), D _ (by omega)]; exact p5
    · unfold trh
      rw [C _ _ (by omega), D _ (by omega)]; exact p6 t ht
  · by_cases e : i = k ∧ y = j
    · rw [e.1, e.2, cup_at, cup_at]
    · rw [D _ (by omega), cup_ne (by omega)]; exact h7 i hi y hy
theorem CT.pset {c d : cg} {np nq N i j : Nat} (h : CT c d np nq N) (hi : i < 6) (hj : 1 ≤ j ∧ j ≤ 5) (v : Int) : CT (cup c (17 + 2 * i) j v) (cup d 254 (14 + 6 * i + j) v) np nq N := by
  obtain ⟨⟨a1, a2, a3⟩, ⟨b1, b2, b3⟩, ⟨c1, c2, c3⟩, ⟨d1, d2, d3, d4⟩, h5, h6, h7⟩ := h
  have C : ∀ x y : Nat, ¬ (x = 17 + 2 * i ∧ y = j) → cup c (17 + 2 * i) j v x y = c x y := fun x y q => cup_ne q
  have D : ∀ y : Nat, y ≠ 14 + 6 * i + j → cup d 254 (14 + 6 * i + j) v 254 y = d 254 y := fun y q => cup_ne (fun e => q e.2)
  refine ⟨⟨a1, a2, a3⟩, ⟨by rw [C _ _ (by omega)]; exact b1, by rw [C _ _ (by omega)]; exact b2, by rw [C _ _ (by omega)]; exact b3⟩, ⟨by rw [D _ (by omega)]; exact c1, by rw [D _ (by omega)]; exact c2, by rw [D _ (by omega)]; exact c3⟩, ⟨by rw [C _ _ (by omega), D _ (by omega)]; exact d1, by rw [C _ _ (by omega), D _ (by omega)]; exact d2, by rw [C _ _ (by omega), D _ (by omega)]; exact d3, by rw [C _ _ (by omega), D _ (by omega)]; exact d4⟩, fun x hx => by rw [C _ _ (by omega), D _ (by omega)]; exact h5 x hx, fun x hx => ?_, fun x hx y hy => by rw [C _ _ (by omega), D _ (by omega)]; exact h7 x hx y hy⟩
  obtain ⟨⟨p1, p2, p3, p4, p5⟩, p6⟩ := h6 x hx
  have one : ∀ f : Nat, 1 ≤ f → f ≤ 5 → d 254 (14 + 6 * x + f) = c (17 + 2 * x) f → cup d 254 (14 + 6 * i + j) v 254 (14 + 6 * x + f) = cup c (17 + 2 * i) j v (17 + 2 * x) f := fun f f1 f2 q => by
    by_cases e : x = i ∧ f = j
    · rw [e.1, e.2, cup_at, cup_at]
    · rw [C _ _ (by omega), D _ (by omega)]; exact q
  refine ⟨⟨?_, ?_, ?_, ?_, ?_⟩, fun t ht => ?_⟩
  · rw [show 15 + 6 * x = 14 + 6 * x + 1 by omega] at p1 ⊢; exact one 1 (by decide) (by decide) p1
  · rw [show 16 + 6 * x = 14 + 6 * x + 2 by omega] at p2 ⊢; exact one 2 (by decide) (by decide) p2
  · rw [show 17 + 6 * x = 14 + 6 * x + 3 by omega] at p3 ⊢; exact one 3 (by decide) (by decide) p3
  · rw [show 18 + 6 * x = 14 + 6 * x + 4 by omega] at p4 ⊢; exact one 4 (by decide) (by decide) p4
  · rw [show 19 + 6 * x = 14 + 6 * x + 5 by omega] at p5 ⊢; exact one 5 (by decide) (by decide) p5
  · unfold trh
    rw [C _ _ (by omega), D _ (by omega)]; exact p6 t ht
theorem CT.tset {c d : cg} {np nq N i t : Nat} (h : CT c d np nq N) (hi : i < 6) (ht : t < 8) (v : Int) : CT (cup c (18 + 2 * i) t v) (cup d 254 (51 + 8 * i + t) v) np nq N := by
  obtain ⟨⟨a1, a2, a3⟩, ⟨b1, b2, b3⟩, ⟨c1, c2, c3⟩, ⟨d1, d2, d3, d4⟩, h5, h6, h7⟩ := h
  have C : ∀ x y : Nat, ¬ (x = 18 + 2 * i ∧ y = t) → cup c (18 + 2 * i) t v x y = c x y := fun x y q => cup_ne q
  have D : ∀ y : Nat, y ≠ 51 + 8 * i + t → cup d 254 (51 + 8 * i + t) v 254 y = d 254 y := fun y q => cup_ne (fun e => q e.2)
  refine ⟨⟨a1, a2, a3⟩, ⟨by rw [C _ _ (by omega)]; exact b1, by rw [C _ _ (by omega)]; exact b2, by rw [C _ _ (by omega)]; exact b3⟩, ⟨by rw [D _ (by omega)]; exact c1, by rw [D _ (by omega)]; exact c2, by rw [D _ (by omega)]; exact c3⟩, ⟨by rw [C _ _ (by omega), D _ (by omega)]; exact d1, by rw [C _ _ (by omega), D _ (by omega)]; exact d2, by rw [C _ _ (by omega), D _ (by omega)]; exact d3, by rw [C _ _ (by omega), D _ (by omega)]; exact d4⟩, fun x hx => by rw [C _ _ (by omega), D _ (by omega)]; exact h5 x hx, fun x hx => ?_, fun x hx y hy => by rw [C _ _ (by omega), D _ (by omega)]; exact h7 x hx y hy⟩
  obtain ⟨⟨p1, p2, p3, p4, p5⟩, p6⟩ := h6 x hx
  refine ⟨⟨?_, ?_, ?_, ?_, ?_⟩, fun y hy => ?_⟩
  · rw [C _ _ (by omega), D _ (by omega)]; exact p1
  · rw [C _ _ (by omega), D _ (by omega)]; exact p2
  · rw [C _ _ (by omega), D _ (by omega)]; exact p3
  · rw [C _ _ (by omega), D _ (by omega)]; exact p4
  · rw [C _ _ (by omega), D _ (by omega)]; exact p5
  · unfold trh
    by_cases e : x = i ∧ y = t
    · rw [e.1, e.2, cup_at, cup_at]
    · rw [C _ _ (by omega), D _ (by omega)]; exact p6 y hy
theorem CT.sset {c d : cg} {np nq N j : Nat} (h : CT c d np nq N) (hj : 3 ≤ j ∧ j ≤ 6) (v : Int) : CT (cup c 3 (j + 2) v) (cup d 254 j v) np nq N := by
  obtain ⟨⟨a1, a2, a3⟩, ⟨b1, b2, b3⟩, ⟨c1, c2, c3⟩, ⟨d1, d2, d3, d4⟩, h5, h6, h7⟩ := h
  have C : ∀ x y : Nat, ¬ (x = 3 ∧ y = j + 2) → cup c 3 (j + 2) v x y = c x y := fun x y q => cup_ne q
  have D : ∀ y : Nat, y ≠ j → cup d 254 j v 254 y = d 254 y := fun y q => cup_ne (fun e => q e.2)
  have one : ∀ f : Nat, d 254 f = c 3 (f + 2) → cup d 254 j v 254 f = cup c 3 (j + 2) v 3 (f + 2) := fun f q => by
    by_cases e : f = j
    · rw [e, cup_at, cup_at]
    · rw [C _ _ (by omega), D _ (by omega)]; exact q
  refine ⟨⟨a1, a2, a3⟩, ⟨by rw [C _ _ (by omega)]; exact b1, by rw [C _ _ (by omega)]; exact b2, by rw [C _ _ (by omega)]; exact b3⟩, ⟨by rw [D _ (by omega)]; exact c1, by rw [D _ (by omega)]; exact c2, by rw [D _ (by omega)]; exact c3⟩, ⟨one 3 d1, one 4 d2, one 5 d3, one 6 d4⟩, fun x hx => by rw [C _ _ (by omega), D _ (by omega)]; exact h5 x hx, fun x hx => ?_, fun x hx y hy => by rw [C _ _ (by omega), D _ (by omega)]; exact h7 x hx y hy⟩
  obtain ⟨⟨p1, p2, p3, p4, p5⟩, p6⟩ := h6 x hx
  refine ⟨⟨?_, ?_, ?_, ?_, ?_⟩, fun y hy => ?_⟩
  · rw [C _ _ (by omega), D _ (by omega)]; exact p1
  · rw [C _ _ (by omega), D _ (by omega)]; exact p2
  · rw [C _ _ (by omega), D _ (by omega)]; exact p3
  · rw [C _ _ (by omega), D _ (by omega)]; exact p4
  · rw [C _ _ (by omega), D _ (by omega)]; exact p5
  · unfold trh
    rw [C _ _ (by omega), D _ (by omega)]; exact p6 y hy
end
