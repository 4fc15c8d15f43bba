/-! DOUBT, FEE, WHY: the reference -/
theorem zloop2 {sv : Nat → Int32} {L y pc : Nat} {o : cg × Option cv} (Q : Nat → dlf → cg → Prop) (E : Nat → Prop) (hmono : ∀ n : Nat, E n → E (n + 1)) (hstep : ∀ (n i : Nat) (lf : dlf) (g : cg), Q i lf g → zr sv L (n + 1) y pc lf [] g o → E n ∨ ∃ lf' g', Q (i + 1) lf' g' ∧ zr sv L n y pc lf' [] g' o) : ∀ (n i : Nat) (lf : dlf) (g : cg), Q i lf g → zr sv L n y pc lf [] g o → E n
  | 0, _, _, _, _, h => (zr_0 h).elim
  | n + 1, i, lf, g, hQ, h => by
    rcases hstep n i lf g hQ h with e | ⟨lf', g', h1, h2⟩
    · exact hmono n e
    · exact hmono n (zloop2 Q E hmono hstep n (i + 1) lf' g' h1 h2)
/-- the PLACES said of a PERSON and HOUR, as a set -/
def pmk (c : cg) (P T : Nat) : Nat → Nat
  | 0 => 0
  | k + 1 => cond (isof c P T k) (pmk c P T k ||| 2 ^ ohq c k) (pmk c P T k)
theorem pmk_t {c : cg} {P T k : Nat} (h : isof c P T k = true) : pmk c P T (k + 1) = pmk c P T k ||| 2 ^ ohq c k := by
  show cond (isof c P T k) _ _ = _
  rw [h]; rfl
theorem pmk_f {c : cg} {P T k : Nat} (h : isof c P T k = false) : pmk c P T (k + 1) = pmk c P T k := by
  show cond (isof c P T k) _ _ = _
  rw [h]; rfl
theorem pmk_lt {c : cg} {P T N : Nat} (hV : OHV c N) : ∀ k : Nat, k ≤ N → pmk c P T k < 32
  | 0, _ => by show (0 : Nat) < 32; omega
  | k + 1, hk => by
    have ih := pmk_lt (P := P) (T := T) hV k (by omega)
    obtain ⟨-, -, -, v4, -⟩ := hV k (by omega)
    cases hb : isof c P T k with
    | true => rw [pmk_t hb]; exact lt32 _ ih _ (by omega)
    | false => rw [pmk_f hb]; exact ih
theorem pmk_tb {c : cg} {P T N : Nat} (hV : OHV c N) {a : Nat} (ha : a < 5) : ∀ k : Nat, k ≤ N → ((pmk c P T k).testBit a = true ↔ ∃ i : Nat, i < k ∧ isof c P T i = true ∧ ohq c i = a)
  | 0, _ => ⟨fun h => (by rw [show pmk c P T 0 = 0 from rfl, Nat.zero_testBit] at h; cases h), fun ⟨i, hi, _⟩ => absurd hi (Nat.not_lt_zero i)⟩
  | k + 1, hk => by
    have ih := pmk_tb (P := P) (T := T) hV ha k (by omega)
    have lt := pmk_lt (P := P) (T := T) hV k (by omega)
    obtain ⟨-, -, -, v4, -⟩ := hV k (by omega)
    cases hb : isof c P T k with
    | true =>
      rw [pmk_t hb, tb6 _ (by omega) _ (by omega) a (by omega), Bool.or_eq_true, ih, decide_eq_true_iff]
      constructor
      · rintro (⟨i, x, y⟩ | e)
        · exact ⟨i, by omega, y⟩
        · exact ⟨k, by omega, hb, e.symm⟩
      · intro ⟨i, x, y, z⟩
        by_cases q : i = k
        · rw [q] at z; exact Or.inr z.symm
        · exact Or.inl ⟨i, by omega, y, z⟩
    | false =>
      rw [pmk_f hb, ih]
      constructor
      · intro ⟨i, x, y⟩; exact ⟨i, by omega, y⟩
      · intro ⟨i, x, y, z⟩
        by_cases q : i = k
        · rw [q, hb] at y; cases y
        · exact ⟨i, by omega, y, z⟩
/-- an HOUR is in DOUBT -/
def dbh (c : cg) (P N T : Nat) : Bool := decide (1 < pc6 (pmk c P T N))
theorem dbh_i {c : cg} {P N T : Nat} (hV : OHV c N) : dbh c P N T = true ↔ ∃ i : Nat, i < N ∧ ∃ k : Nat, k < N ∧ isof c P T i = true ∧ isof c P T k = true ∧ ohq c i ≠ ohq c k := by
  unfold dbh
  rw [decide_eq_true_iff, pc6_two _ (pmk_lt hV N (Nat.le_refl N))]
  constructor
  · intro ⟨a, ha, b, hb, hn, h1, h2⟩
    obtain ⟨i, i1, i2, i3⟩ := (pmk_tb hV ha N (Nat.le_refl N)).mp h1
    obtain ⟨k, k1, k2, k3⟩ := (pmk_tb hV hb N (Nat.le_refl N)).mp h2
    exact ⟨i, i1, k, k1, i2, k2, by omega⟩
  · intro ⟨i, i1, k, k1, i2, k2, hn⟩
    obtain ⟨-, -, -, v4, -⟩ := hV i i1
    obtain ⟨-, -, -, u4, -⟩ := hV k k1
    exact ⟨ohq c i, by omega, ohq c k, by omega, hn, (pmk_tb hV (by omega) N (Nat.le_refl N)).mpr ⟨i, i1, i2, rfl⟩, (pmk_tb hV (by omega) N (Nat.le_refl N)).mpr ⟨k, k1, k2, rfl⟩⟩
section Mq2
variable {sv : Nat → Int32} {L : Nat} {n : Nat} {lf : dlf} {c d : cg} {o : cg × Option cv} {N W P Q T : Nat}
theorem m_dbt_ok (hP : P ≤ 5) (hN16 : N ≤ 16) (hN : d 254 2 = (N : Int)) (hV : OHV c N) (hR : OHR c d N) (h : zr sv L n 222 0 lf [] d o) (h0 : lf 0 = (4, 253)) (h1 : lf 1 = (0, (P : Int))) : o = (d, some (0, (cnt (dbh c P N) 8 : Int))) := by
  obtain ⟨lf1, a0, a1, a2, a3, h⟩ := m_dbt0 hP h h0 h1
  refine zloop (fun T lf g => g = d ∧ T ≤ 8 ∧ lf 0 = (4, 253) ∧ lf 1 = (0, (P : Int)) ∧ lf 2 = (0, (cnt (dbh c P N) T : Int)) ∧ lf 3 = (0, (T : Int))) _ ?_ n 0 lf1 d ⟨rfl, by omega, a0, a1, a2, a3⟩ h
  intro n T lf g ⟨e, hT, b0, b1, b2, b3⟩ hzT
  subst e
  have h := hzT
  rcases m_dbt4 hP h b0 b1 b2 b3 with ⟨x, e⟩ | ⟨x, lf2, y0, y1, y2, y3, y4, y5, h⟩
  · have : T = 8 := by omega
    subst this
    exact Or.inl e
  · refine Or.inr (zloop2 (fun k lf g' => g' = g ∧ k ≤ N ∧ lf 0 = (4, 253) ∧ lf 1 = (0, (P : Int)) ∧ lf 2 = (0, (cnt (dbh c P N) T : Int)) ∧ lf 3 = (0, (T : Int)) ∧ lf 4 = (0, (pmk c P T k : Int)) ∧ lf 5 = (0, (k : Int))) (fun n => ∃ lf' g', (g' = g ∧ T + 1 ≤ 8 ∧ lf' 0 = (4, 253) ∧ lf' 1 = (0, (P : Int)) ∧ lf' 2 = (0, (cnt (dbh c P N) (T + 1) : Int)) ∧ lf' 3 = (0, ((T + 1 : Nat) : Int))) ∧ zr sv L n 222 4 lf' [] g' o) ?_ ?_ n 0 lf2 g ⟨rfl, by omega, y0, y1, y2, y3, y4, y5⟩ h)
    · intro n ⟨lf', g', a, b⟩
      exact ⟨lf', g', a, zr_m b⟩
    · intro n k lf g' ⟨e, hk, b0, b1, b2, b3, b4, b5⟩ hzk
      subst e
      have h := hzk
      have hc := cnt_le (f := dbh c P N) T
      by_cases hlt : k < N
      · obtain ⟨v1, v2, v3, v4, v5⟩ := hV k hlt
        have lt := pmk_lt (P := P) (T := T) hV k (by omega)
        rcases m_dbt16_s hP (by omega) v2 v3 v4 v5 (by omega) hN16 hN (hR k hlt) hlt h b0 b1 b2 b3 b4 b5 with ⟨z, lf3, w0, w1, w2, w3, w4, w5, h⟩ | ⟨z, lf3, w0, w1, w2, w3, w4, w5, h⟩
        · have hf : isof c P T k = false := isof_f (by omega)
          rw [bor0 _ (by omega)] at w4
          exact Or.inr ⟨lf3, _, ⟨rfl, hlt, w0, w1, w2, w3, by rw [pmk_f hf]; exact w4, by rw [w5]; exact congrArg _ (Int.add_comm _ _)⟩, h⟩
        · have hf : isof c P T k = true := isof_t z.1 z.2.1 z.2.2
          rw [(bor6 _ (by omega) _ (by omega)).1] at w4
          exact Or.inr ⟨lf3, _, ⟨rfl, hlt, w0, w1, w2, w3, by rw [pmk_t hf]; exact w4, by rw [w5]; exact congrArg _ (Int.add_comm _ _)⟩, h⟩
      · have ek : k = N := by omega
        subst ek
        have lt := pmk_lt (P := P) (T := T) hV k (by omega)
        obtain ⟨g1, r1, k1, h⟩ := m_dbt16_e hP (by omega) hN16 hN16 hN (Nat.le_refl _) h b0 b1 b2 b3 b4 b5
        obtain ⟨u1, u2⟩ := oI (m_bits_ok (by omega) k1 rfl)
        rw [u1, u2] at h
        rcases h with ⟨z, lf3, w0, w1, w2, w3, h⟩ | ⟨z, lf3, w0, w1, w2, w3, h⟩
        · have hf : dbh c P k T = false := decide_eq_false (by omega)
          rw [w32_id (by omega) (by omega)] at w2
          exact Or.inl ⟨lf3, _, ⟨rfl, by omega, w0, w1, by rw [w2, cnt_n hf]; exact congrArg _ (Int.add_zero _), by rw [w3]; exact congrArg _ (Int.add_comm _ _)⟩, h⟩
        · have hf : dbh c P k T = true := decide_eq_true (by omega)
          rw [w32_id (by omega) (by omega)] at w2
          exact Or.inl ⟨lf3, _, ⟨rfl, by omega, w0, w1, by rw [w2, cnt_s hf]; rfl, by rw [w3]; exact congrArg _ (Int.add_comm _ _)⟩, h⟩
end Mq2
def rate (c : cg) (N W P Q T : Nat) : Int := w32 (c 3 5 + w32 (c 3 6 * (cnt (gns c W P Q T) N : Int)))
def fees (c : cg) (N W P Q T : Nat) : Int := if trh c P T = (Q : Int) ∨ c (17 + 2 * W) 3 = 1 then 0 else if c (17 + 2 * W) 4 ≠ -1 ∧ 0 < cnt (bkd c P Q T (c (17 + 2 * W) 4)) N then qdi (w32 (rate c N W P Q T + 1)) 2 else rate c N W P Q T
def spk (c : cg) (W P T k : Nat) : Bool := isof c P T k && decide (ohw c k = W)
theorem spk_i {c : cg} {W P T k : Nat} : spk c W P T k = true ↔ ohs c k = 0 ∧ ohp c k = P ∧ oht c k = T ∧ ohw c k = W := by
  unfold spk
  rw [Bool.and_eq_true, isof_i, decide_eq_true_iff]
  exact ⟨fun ⟨⟨a, b, d⟩, e⟩ => ⟨a, b, d, e⟩, fun ⟨a, b, d, e⟩ => ⟨⟨a, b, d⟩, e⟩⟩
def lfr (c : cg) (W P k : Nat) : Bool := decide (ohs c k = 0 ∧ trh c (ohp c k) (oht c k) ≠ (ohq c k : Int) ∧ ohp c k = P ∧ ban (bsr (c (17 + 2 * W) 5) (ohw c k : Int)) 1 = 1)
theorem lfr_i {c : cg} {W P k : Nat} : lfr c W P k = true ↔ ohs c k = 0 ∧ trh c (ohp c k) (oht c k) ≠ (ohq c k : Int) ∧ ohp c k = P ∧ ban (bsr (c (17 + 2 * W) 5) (ohw c k : Int)) 1 = 1 := decide_eq_true_iff
def whys (c : cg) (N W P Q T : Nat) : Int := if N = 16 then 1 else if 0 < cnt (spk c W P T) N then 2 else if trh c P T ≠ (Q : Int) ∧ trh c P T ≠ -1 ∧ cnt (dbh c P N) 8 = 0 then 3 else if trh c P T ≠ (Q : Int) ∧ 0 < cnt (lfr c W P) N then 4 else if c (17 + 2 * W) 1 < fees c N W P Q T then 5 else 0
/-- both courts hold the same -/
def RTS (c d : cg) : Prop := d 254 3 = c 3 5 ∧ d 254 4 = c 3 6
theorem cnt_0 {f : Nat → Bool} {N : Nat} (h : ∀ k : Nat, k < N → f k = false) : cnt f N = 0 := by
  by_cases q : 0 < cnt f N
  · obtain ⟨i, h1, h2⟩ := (cnt_pos N).mp q
    rw [h i h1] at h2; cases h2
  · omega
section Mq3
variable {sv : Nat → Int32} {L : Nat} {n : Nat} {lf : dlf} {c d : cg} {o : cg × Option cv} {N W P Q T nq : Nat}
theorem m_fee_ok (hW : W ≤ 5) (hP : P ≤ 5) (hQ : Q ≤ 4) (hT : T ≤ 7) (hN16 : N ≤ 16) (hN : d 254 2 = (N : Int)) (hV : OHV c N) (hR : OHR c d N) (hU : UQ c N) (hS : PRS c d nq) (hWq : W < nq) (hPq : P < nq) (hs : RTS c d) (h : zr sv L n 224 0 lf [] d o) (h0 : lf 0 = (4, 253)) (h1 : lf 1 = (0, (W : Int))) (h2 : lf 2 = (0, (P : Int))) (h3 : lf 3 = (0, (Q : Int))) (h4 : lf 4 = (0, (T : Int))) : o = (d, some (0, fees c N W P Q T)) := by
  have hv := (hS P hPq).2 T (by omega)
  have hm := (hS W hWq).1
  unfold fees
  rcases m_fee hW hP hQ hT hm hv h h0 h1 h2 h3 h4 with ⟨z, e⟩ | ⟨z, g1, r1, k1, h⟩
  · rw [if_pos (by omega)]
    exact e
  · rw [if_neg (fun q => q.elim z.1 z.2)]
    obtain ⟨u1, u2⟩ := oI (m_agn_ok hW hP hQ hT hN16 hN hV hR hU k1 rfl rfl rfl rfl rfl)
    rw [u1, u2, hm.2.2.2.1, hs.1, hs.2] at h
    rcases h with ⟨y, e⟩ | ⟨y, g2, r2, k2, h⟩
    · rw [if_neg (fun q => q.1 y)]
      exact e
    · obtain ⟨v1, v2⟩ := oI (m_bkd_ok hP hQ hT hN16 hN hV hR k2 rfl rfl rfl rfl rfl)
      rw [v1, v2] at h
      rcases h with ⟨x, e⟩ | ⟨x, e⟩
      · rw [if_neg (by omega)]
        exact e
      · rw [if_pos (by omega)]
        exact e
theorem m_why_ok (hW : W ≤ 5) (hP : P ≤ 5) (hQ : Q ≤ 4) (hT : T ≤ 7) (hN16 : N ≤ 16) (hN : d 254 2 = (N : Int)) (hV : OHV c N) (hR : OHR c d N) (hU : UQ c N) (hS : PRS c d nq) (hWq : W < nq) (hPq : P < nq) (hO : ∀ k : Nat, k < N → ohp c k < nq) (hs : RTS c d) (h : zr sv L n 220 0 lf [] d o) (h0 : lf 0 = (4, 253)) (h1 : lf 1 = (0, (W : Int))) (h2 : lf 2 = (0, (P : Int))) (h3 : lf 3 = (0, (Q : Int))) (h4 : lf 4 = (0, (T : Int))) : o = (d, some (0, whys c N W P Q T)) := by
  have hv := (hS P hPq).2 T (by omega)
  have hm := (hS W hWq).1
  unfold whys
  rcases m_why0 hW hP hQ hT hN16 hN h h0 h1 h2 h3 h4 with ⟨z, lf1, a0, a1, a2, a3, a4, a5, h⟩ | ⟨z, e⟩
  · rw [if_neg (by omega)]
    refine zloop (fun k lf g => g = d ∧ k ≤ N ∧ lf 0 = (4, 253) ∧ lf 1 = (0, (W : Int)) ∧ lf 2 = (0, (P : Int)) ∧ lf 3 = (0, (Q : Int)) ∧ lf 4 = (0, (T : Int)) ∧ lf 5 = (0, (k : Int)) ∧ ∀ i : Nat, i < k → spk c W P T i = false) _ ?_ n 0 lf1 d ⟨rfl, by omega, a0, a1, a2, a3, a4, a5, fun i hi => absurd hi (Nat.not_lt_zero i)⟩ h
    intro n k lf g ⟨e, hk, b0, b1, b2, b3, b4, b5, b6⟩ hzk
    subst e
    have h := hzk
    by_cases hlt : k < N
    · obtain ⟨v1, v2, v3, v4, v5⟩ := hV k hlt
      rcases m_why16s hW hP hQ hT v2 v3 v4 v5 (by omega) hN16 hN (hR k hlt) hlt h b0 b1 b2 b3 b4 b5 with ⟨x, lf2, y0, y1, y2, y3, y4, y5, h⟩ | ⟨x, e⟩
      · have hf : spk c W P T k = false := bf (fun q => by
          have := spk_i.mp q
          omega)
        exact Or.inr ⟨lf2, _, ⟨rfl, hlt, y0, y1, y2, y3, y4, by rw [y5]; exact congrArg _ (Int.add_comm _ _), fun i hi => by
          by_cases q : i = k
          · rw [q]; exact hf
          · exact b6 i (by omega)⟩, h⟩
      · have hp : 0 < cnt (spk c W P T) N := (cnt_pos N).mpr ⟨k, hlt, spk_i.mpr (by omega)⟩
        rw [if_pos hp]
        exact Or.inl e
    · have ek : k = N := by omega
      subst ek
      rw [if_neg (by rw [cnt_0 b6]; exact Nat.lt_irrefl 0)]
      left
      have hlst : ∀ {n : Nat} {lf : dlf}, lf 0 = (4, 253) → lf 1 = (0, (W : Int)) → lf 2 = (0, (P : Int)) → lf 3 = (0, (Q : Int)) → lf 4 = (0, (T : Int)) → lf 5 = (0, 0) → zr sv L n 220 92 lf [] g o → o = (g, some (0, if 0 < cnt (lfr c W P) k then 4 else if c (17 + 2 * W) 1 < fees c k W P Q T then 5 else 0)) := by
        intro n lf a0 a1 a2 a3 a4 a5 h
        refine zloop (fun i lf g' => g' = g ∧ i ≤ k ∧ lf 0 = (4, 253) ∧ lf 1 = (0, (W : Int)) ∧ lf 2 = (0, (P : Int)) ∧ lf 3 = (0, (Q : Int)) ∧ lf 4 = (0, (T : Int)) ∧ lf 5 = (0, (i : Int)) ∧ ∀ j : Nat, j < i → lfr c W P j = false) _ ?_ n 0 lf g ⟨rfl, by omega, a0, a1, a2, a3, a4, a5, fun i hi => absurd hi (Nat.not_lt_zero i)⟩ h
        intro n i lf g' ⟨e, hi, c0, c1, c2, c3, c4, c5, c6⟩ hzi
        subst e
        have h := hzi
        by_cases hlt : i < k
        · obtain ⟨v1, v2, v3, v4, v5⟩ := hV i hlt
          rcases m_why92s hW hP hQ hT v2 v3 v4 v5 (by omega) hN16 hN (hR i hlt) ((hS _ (hO i hlt)).2 _ (by omega)) hm.2.2.2.2 hlt h c0 c1 c2 c3 c4 c5 with ⟨x, lf2, y0, y1, y2, y3, y4, y5, h⟩ | ⟨x, e⟩
          · have hf : lfr c W P i = false := bf (fun q => by
              obtain ⟨q1, q2, q3, q4⟩ := lfr_i.mp q
              rcases x with x | ⟨-, -, x⟩ | ⟨-, -, -, x⟩ | ⟨-, x⟩
              · exact x q1
              · omega
              · exact x q4
              · exact q2 x)
            exact Or.inr ⟨lf2, _, ⟨rfl, hlt, y0, y1, y2, y3, y4, by rw [y5]; exact congrArg _ (Int.add_comm _ _), fun j hj => by
              by_cases q : j = i
              · rw [q]; exact hf
              · exact c6 j (by omega)⟩, h⟩
          · have hp : 0 < cnt (lfr c W P) k := (cnt_pos k).mpr ⟨i, hlt, lfr_i.mpr ⟨x.1, x.2.1, by omega, x.2.2.2⟩⟩
            rw [if_pos hp]
            exact Or.inl e
        · have ei : i = k := by omega
          subst ei
          rw [if_neg (by rw [cnt_0 c6]; exact Nat.lt_irrefl 0)]
          left
          obtain ⟨g1, r1, k1, h⟩ := m_why92e hW hP hQ hT hN16 hN16 hN hm.1 (Nat.le_refl _) h c0 c1 c2 c3 c4 c5
          obtain ⟨u1, u2⟩ := oI (m_fee_ok hW hP hQ hT hN16 hN hV hR hU hS hWq hPq hs k1 rfl rfl rfl rfl rfl)
          rw [u1, u2, hm.1] at h
          rcases h with ⟨x, e⟩ | ⟨x, e⟩
          · rw [if_neg (by omega)]; exact e
          · rw [if_pos (by omega)]; exact e
      rcases m_why16e hW hP hQ hT hN16 hN16 hN hv (Nat.le_refl _) h b0 b1 b2 b3 b4 b5 with ⟨x, g1, r1, k1, h⟩ | ⟨x, lf2, y0, y1, y2, y3, y4, y5, h⟩ | ⟨x, g1, r1, k1, h⟩
      · obtain ⟨u1, u2⟩ := oI (m_fee_ok hW hP hQ hT hN16 hN hV hR hU hS hWq hPq hs k1 rfl rfl rfl rfl rfl)
        rw [u1, u2, hm.1] at h
        rw [if_neg (fun q => q.1 x), if_neg (fun q => q.1 x)]
        rcases h with ⟨x, e⟩ | ⟨x, e⟩
        · rw [if_neg (by omega)]; exact e
        · rw [if_pos (by omega)]; exact e
      · rw [if_neg (fun q => q.2.1 x.2), hlst y0 y1 y2 y3 y4 y5 h]
        by_cases q : 0 < cnt (lfr c W P) k
        · rw [if_pos q, if_pos ⟨x.1, q⟩]
        · rw [if_neg q, if_neg (show ¬ (trh c P T ≠ (Q : Int) ∧ 0 < cnt (lfr c W P) k) from fun z => q z.2)]
      · obtain ⟨u1, u2⟩ := oI (m_dbt_ok hP hN16 hN hV hR k1 rfl rfl)
        rw [u1, u2] at h
        rcases h with ⟨z, lf2, y0, y1, y2, y3, y4, y5, h⟩ | ⟨z, e⟩
        · rw [if_neg (fun q => by have := q.2.2; omega), hlst y0 y1 y2 y3 y4 y5 h]
          by_cases q : 0 < cnt (lfr c W P) k
          · rw [if_pos q, if_pos ⟨x.1, q⟩]
          · rw [if_neg q, if_neg (show ¬ (trh c P T ≠ (Q : Int) ∧ 0 < cnt (lfr c W P) k) from fun z => q z.2)]
        · rw [if_pos ⟨x.1, x.2, by omega⟩]
          exact e
  · rw [if_pos (by omega)]
    exact e
end Mq3
