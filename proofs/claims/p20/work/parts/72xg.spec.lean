/-! what is asked of a court, by the class's cells: OATHS 29 .., PERSONS 17 .. -/
def ohw (c : cg) (k : Nat) : Nat := (c (29 + k) 0).toNat
def ohp (c : cg) (k : Nat) : Nat := (c (29 + k) 1).toNat
def ohq (c : cg) (k : Nat) : Nat := (c (29 + k) 2).toNat
def oht (c : cg) (k : Nat) : Nat := (c (29 + k) 3).toNat
def ohs (c : cg) (k : Nat) : Int := c (29 + k) 5
def trh (c : cg) (p t : Nat) : Int := c (18 + 2 * p) t
/-- it STANDS, of this PERSON and HOUR -/
def isof (c : cg) (P T k : Nat) : Bool := decide (ohs c k = 0 ∧ ohp c k = P ∧ oht c k = T)
def says (c : cg) (P Q T k : Nat) : Bool := isof c P T k && decide (ohq c k = Q)
def gns (c : cg) (W P Q T k : Nat) : Bool := isof c P T k && (decide (ohq c k ≠ Q) && decide (ohw c k ≠ W))
def lie (c : cg) (k : Nat) : Bool := decide (ohs c k = 0 ∧ trh c (ohp c k) (oht c k) ≠ (ohq c k : Int))
/-- the OATHS of both programs -/
def OHV (c : cg) (N : Nat) : Prop := ∀ k : Nat, k < N → OHC c k (ohw c k) (ohp c k) (ohq c k) (oht c k) (c (29 + k) 4) (ohs c k) (c (29 + k) 6) ∧ ohw c k ≤ 5 ∧ ohp c k ≤ 5 ∧ ohq c k ≤ 4 ∧ oht c k ≤ 7
def OHR (c d : cg) (N : Nat) : Prop := ∀ k : Nat, k < N → OHM d k (ohw c k) (ohp c k) (ohq c k) (oht c k) (c (29 + k) 4) (ohs c k) (c (29 + k) 6)
/-- one WITNESS, one OATH that STANDS of a PERSON and HOUR -/
def UQ (c : cg) (N : Nat) : Prop := ∀ i k : Nat, i < k → k < N → ohs c i = 0 → ohs c k = 0 → ohp c i = ohp c k → oht c i = oht c k → ohw c i ≠ ohw c k
/-- PERSONS, by their cells -/
def PRS (c d : cg) (nq : Nat) : Prop := ∀ i : Nat, i < nq → PMm d i (c (17 + 2 * i) 1) (c (17 + 2 * i) 2) (c (17 + 2 * i) 3) (c (17 + 2 * i) 4) (c (17 + 2 * i) 5) ∧ ∀ t : Nat, t < 8 → d 254 (51 + 8 * i + t) = trh c i t
theorem nt_ne {a b : Nat} (h : (a : Int) ≠ (b : Int)) : a ≠ b := fun e => h (by rw [e])
theorem isof_t {c : cg} {P T k : Nat} (h1 : ohs c k = 0) (h2 : (ohp c k : Int) = (P : Int)) (h3 : (oht c k : Int) = (T : Int)) : isof c P T k = true := decide_eq_true ⟨h1, by omega, by omega⟩
theorem isof_f {c : cg} {P T k : Nat} (h : ohs c k ≠ 0 ∨ (ohp c k : Int) ≠ (P : Int) ∨ (oht c k : Int) ≠ (T : Int)) : isof c P T k = false := decide_eq_false (fun ⟨h1, h2, h3⟩ => by omega)
theorem isof_i {c : cg} {P T k : Nat} : isof c P T k = true ↔ ohs c k = 0 ∧ ohp c k = P ∧ oht c k = T := ⟨fun h => of_decide_eq_true h, fun h => decide_eq_true h⟩
theorem says_i {c : cg} {P Q T k : Nat} : says c P Q T k = true ↔ ohs c k = 0 ∧ ohp c k = P ∧ oht c k = T ∧ ohq c k = Q := by
  unfold says
  rw [Bool.and_eq_true, isof_i, decide_eq_true_iff]
  exact ⟨fun ⟨⟨a, b, d⟩, e⟩ => ⟨a, b, d, e⟩, fun ⟨a, b, d, e⟩ => ⟨⟨a, b, d⟩, e⟩⟩
theorem gns_i {c : cg} {W P Q T k : Nat} : gns c W P Q T k = true ↔ ohs c k = 0 ∧ ohp c k = P ∧ oht c k = T ∧ ohq c k ≠ Q ∧ ohw c k ≠ W := by
  unfold gns
  rw [Bool.and_eq_true, Bool.and_eq_true, isof_i, decide_eq_true_iff, decide_eq_true_iff]
  exact ⟨fun ⟨⟨a, b, d⟩, e, f⟩ => ⟨a, b, d, e, f⟩, fun ⟨a, b, d, e, f⟩ => ⟨⟨a, b, d⟩, e, f⟩⟩
theorem bf {b : Bool} (h : ¬ b = true) : b = false := by cases b; rfl; exact absurd rfl h
section Mq
variable {sv : Nat → Int32} {L : Nat} {n : Nat} {lf : dlf} {c d : cg} {o : cg × Option cv} {N W P Q T : Nat}
/-- the WITNESSES of those that are so, as a set -/
def wset (c : cg) (f : Nat → Bool) (k m : Nat) : Prop := m < 64 ∧ ∀ v : Nat, v < 6 → (m.testBit v = true ↔ ∃ i : Nat, i < k ∧ f i = true ∧ ohw c i = v)
theorem wset0 {f : Nat → Bool} : wset c f 0 0 := ⟨by decide, fun v _ => ⟨fun h => (by rw [Nat.zero_testBit] at h; cases h), fun ⟨i, hi, _⟩ => absurd hi (Nat.not_lt_zero i)⟩⟩
theorem wset_n {f : Nat → Bool} {k m : Nat} (h : wset c f k m) (hf : f k = false) : wset c f (k + 1) m := ⟨h.1, fun v hv => (h.2 v hv).trans ⟨fun ⟨i, a, b⟩ => ⟨i, by omega, b⟩, fun ⟨i, a, b, e⟩ => ⟨i, by
  by_cases q : i = k
  · rw [q, hf] at b; cases b
  · omega, b, e⟩⟩⟩
theorem wset_s {f : Nat → Bool} {k m : Nat} (h : wset c f k m) (hf : f k = true) (hw : ohw c k ≤ 5) : wset c f (k + 1) (m ||| 2 ^ ohw c k) := by
  refine ⟨(bor6 m h.1 _ (by omega)).2, fun v hv => ?_⟩
  rw [tb6 m h.1 _ (by omega) v hv, Bool.or_eq_true, h.2 v hv, decide_eq_true_iff]
  constructor
  · rintro (⟨i, a, b⟩ | e)
    · exact ⟨i, by omega, b⟩
    · exact ⟨k, by omega, hf, e.symm⟩
  · intro ⟨i, a, b, e⟩
    by_cases q : i = k
    · rw [q] at e; exact Or.inr e.symm
    · exact Or.inl ⟨i, by omega, b, e⟩
theorem m_agn_ok (hW : W ≤ 5) (hP : P ≤ 5) (hQ : Q ≤ 4) (hT : T ≤ 7) (hN16 : N ≤ 16) (hN : d 254 2 = (N : Int)) (hV : OHV c N) (hR : OHR c d N) (hU : UQ c N) (h : zr sv L n 225 0 lf [] d o) (h0 : lf 0 = (4, 253)) (h1 : lf 1 = (0, (W : Int))) (h2 : lf 2 = (0, (P : Int))) (h3 : lf 3 = (0, (Q : Int))) (h4 : lf 4 = (0, (T : Int))) : o = (d, some (0, (cnt (gns c W P Q T) N : Int))) := by
  obtain ⟨lf1, a0, a1, a2, a3, a4, a5, a6, h⟩ := m_agn0 hW hP hQ hT h h0 h1 h2 h3 h4
  refine zloop (fun k lf g => g = d ∧ k ≤ N ∧ lf 0 = (4, 253) ∧ lf 1 = (0, (W : Int)) ∧ lf 2 = (0, (P : Int)) ∧ lf 3 = (0, (Q : Int)) ∧ lf 4 = (0, (T : Int)) ∧ ∃ m : Nat, lf 5 = (0, (m : Int)) ∧ lf 6 = (0, (k : Int)) ∧ wset c (gns c W P Q T) k m ∧ pc6 m = cnt (gns c W P Q T) k) _ ?_ n 0 lf1 d ⟨rfl, by omega, a0, a1, a2, a3, a4, 0, a5, a6, wset0, rfl⟩ h
  intro n k lf g ⟨e, hk, b0, b1, b2, b3, b4, m, b5, b6, b7, b8⟩ hzk
  subst e
  have h := hzk
  by_cases hlt : k < N
  · obtain ⟨v1, v2, v3, v4, v5⟩ := hV k hlt
    rcases m_agn_s hW hP hQ hT v2 v3 v4 v5 (by omega) hN16 hN (hR k hlt) hlt h b0 b1 b2 b3 b4 b5 b6 with ⟨z, lf2, y0, y1, y2, y3, y4, y5, y6, h⟩ | ⟨z, lf2, y0, y1, y2, y3, y4, y5, y6, h⟩
    · have hf : gns c W P Q T k = false := bf (fun q => by
        have := gns_i.mp q
        omega)
      exact Or.inr ⟨lf2, _, ⟨rfl, hlt, y0, y1, y2, y3, y4, m, y5, by rw [y6]; exact congrArg _ (Int.add_comm _ _), wset_n b7 hf, by rw [cnt_n hf]; exact b8⟩, h⟩
    · have hf : gns c W P Q T k = true := gns_i.mpr (by omega)
      obtain ⟨x1, x2⟩ := bor6 m b7.1 (ohw c k) (by omega)
      rw [x1] at y5
      have hno : m.testBit (ohw c k) = false := bf (fun q => by
        obtain ⟨i, i1, i2, i3⟩ := (b7.2 _ (by omega)).mp q
        have j1 := gns_i.mp i2
        have j2 := gns_i.mp hf
        exact hU i k i1 hlt j1.1 j2.1 (by omega) (by omega) i3)
      exact Or.inr ⟨lf2, _, ⟨rfl, hlt, y0, y1, y2, y3, y4, _, y5, by rw [y6]; exact congrArg _ (Int.add_comm _ _), wset_s b7 hf v2, by rw [cnt_s hf, pc6_set m b7.1 _ (by omega) hno, b8]⟩, h⟩
  · have ek : k = N := by omega
    subst ek
    obtain ⟨g1, r1, k1, h⟩ := m_agn_e hW hP hQ hT hN16 hN16 hN (Nat.le_refl _) h b0 b1 b2 b3 b4 b5 b6
    obtain ⟨u1, u2⟩ := oI (m_bits_ok b7.1 k1 rfl)
    exact Or.inl (by rw [h, u1, u2, b8])
/-- OATHS that say so; of one WITNESS, where u is one -/
def bkd (c : cg) (P Q T : Nat) (u : Int) (k : Nat) : Bool := says c P Q T k && decide (u = -1 ∨ (ohw c k : Int) = u)
theorem bkd_i {u : Int} {k : Nat} : bkd c P Q T u k = true ↔ (ohs c k = 0 ∧ ohp c k = P ∧ oht c k = T ∧ ohq c k = Q) ∧ (u = -1 ∨ (ohw c k : Int) = u) := by
  unfold bkd
  rw [Bool.and_eq_true, says_i, decide_eq_true_iff]
theorem m_bkd_ok {u : Int} (hP : P ≤ 5) (hQ : Q ≤ 4) (hT : T ≤ 7) (hN16 : N ≤ 16) (hN : d 254 2 = (N : Int)) (hV : OHV c N) (hR : OHR c d N) (h : zr sv L n 226 0 lf [] d o) (h0 : lf 0 = (4, 253)) (h1 : lf 1 = (0, (P : Int))) (h2 : lf 2 = (0, (Q : Int))) (h3 : lf 3 = (0, (T : Int))) (h4 : lf 4 = (0, u)) : o = (d, some (0, (cnt (bkd c P Q T u) N : Int))) := by
  obtain ⟨lf1, a0, a1, a2, a3, a4, a5, a6, h⟩ := m_bkd0 hP hQ hT h h0 h1 h2 h3 h4
  refine zloop (fun k lf g => g = d ∧ k ≤ N ∧ lf 0 = (4, 253) ∧ lf 1 = (0, (P : Int)) ∧ lf 2 = (0, (Q : Int)) ∧ lf 3 = (0, (T : Int)) ∧ lf 4 = (0, u) ∧ lf 5 = (0, (cnt (bkd c P Q T u) k : Int)) ∧ lf 6 = (0, (k : Int))) _ ?_ n 0 lf1 d ⟨rfl, by omega, a0, a1, a2, a3, a4, a5, a6⟩ h
  intro n k lf g ⟨e, hk, b0, b1, b2, b3, b4, b5, b6⟩ hzk
  subst e
  have h := hzk
  have hc := cnt_le (f := bkd c P Q T u) k
  by_cases hlt : k < N
  · obtain ⟨v1, v2, v3, v4, v5⟩ := hV k hlt
    rcases m_bkd_s hP hQ hT v2 v3 v4 v5 (by omega) hN16 hN (hR k hlt) hlt h b0 b1 b2 b3 b4 b5 b6 with ⟨z, lf2, y0, y1, y2, y3, y4, y5, y6, h⟩ | ⟨z, lf2, y0, y1, y2, y3, y4, y5, y6, h⟩
    · have hf : bkd c P Q T u k = false := bf (fun q => by
        have := bkd_i.mp q
        omega)
      rw [w32_id (by omega) (by omega)] at y5
      exact Or.inr ⟨lf2, _, ⟨rfl, hlt, y0, y1, y2, y3, y4, by rw [y5, cnt_n hf]; exact congrArg _ (Int.add_zero _), by rw [y6]; exact congrArg _ (Int.add_comm _ _)⟩, h⟩
    · have hf : bkd c P Q T u k = true := bkd_i.mpr (by omega)
      rw [w32_id (by omega) (by omega)] at y5
      exact Or.inr ⟨lf2, _, ⟨rfl, hlt, y0, y1, y2, y3, y4, by rw [y5, cnt_s hf]; rfl, by rw [y6]; exact congrArg _ (Int.add_comm _ _)⟩, h⟩
  · have ek : k = N := by omega
    subst ek
    exact Or.inl (m_bkd_e hP hQ hT hN16 hN16 hN (Nat.le_refl _) h b0 b1 b2 b3 b4 b5 b6)
end Mq
