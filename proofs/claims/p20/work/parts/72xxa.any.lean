/-! SWEAR any: what can be said, drawn, on both sides -/
theorem cnt_mono {f : Nat → Bool} {a : Nat} : ∀ {b : Nat}, a ≤ b → cnt f a ≤ cnt f b
  | 0, h => by rw [show a = 0 by omega]; exact Nat.le_refl _
  | b + 1, h => by
    by_cases e : a = b + 1
    · rw [e]; exact Nat.le_refl _
    · have h1 := cnt_mono (f := f) (b := b) (show a ≤ b by omega)
      show cnt f a ≤ cnt f b + (f b).toNat
      omega
theorem posd {np t q : Nat} (h : q < np) : (np * t + q) % np = q ∧ (np * t + q) / np = t := by
  rw [Nat.mul_add_mod, Nat.mod_eq_of_lt h, Nat.mul_add_div (by omega), Nat.div_eq_of_lt h]
  exact ⟨rfl, rfl⟩
def sy (c : cg) (np N W P x : Nat) : Bool := decide (whys c N W P (x % np) (x / np) = 0)
theorem sy_at {c : cg} {np N W P t q : Nat} (h : q < np) : sy c np N W P (np * t + q) = decide (whys c N W P q t = 0) := by
  unfold sy
  rw [(posd h).1, (posd h).2]
def SYI (c ca g : cg) (np N W P X m : Nat) : Prop := m = cnt (sy c np N W P) X ∧ (∀ k j : Nat, k ≠ 109 → g k j = ca k j) ∧ ∀ x : Nat, x < X → sy c np N W P x = true → g 109 (cnt (sy c np N W P) x) = ((x % np : Nat) : Int) + 5 * ((x / np : Nat) : Int)
theorem mul_t {np t : Nat} (h5 : np ≤ 5) (ht : t ≤ 8) : np * t ≤ 40 := Nat.mul_le_mul h5 ht
theorem mul_s (np t : Nat) : np * (t + 1) = np * t + np := Nat.mul_succ np t
theorem mul_q {np t q : Nat} (h5 : np ≤ 5) (ht : t < 8) (hq : q < np) : np * t + q < 40 := by
  have := mul_t (t := t + 1) h5 ht
  rw [mul_s] at this
  omega
section Any
variable {sv : Nat → Int32} {L : Nat} {n n' : Nat} {lf lf' : dlf} {c d c' d' ca g : cg} {o o' : cg × Option cv} {np nq N W P Q T k : Nat} {r r' : Int}
/-- the class: all that can be said, in order -/
theorem swy_l (hA : ASDl c ca N W P) (hb : CB c ca) (hV : OHV c N) (hw : WOK c W) (h5 : np ≤ 5) (hW : W ≤ 5) (hP : P ≤ 5) (hN16 : N ≤ 16) (hN : c 3 9 = (N : Int)) (h3 : c 3 0 = (np : Int)) (h : zr sv L n 155 29 lf [] ca o) (h0 : lf 0 = (4, 107)) (h2 : lf 2 = (0, 0)) (ht : lf 3 = (0, 0)) : ∃ (n1 : Nat) (lf1 : dlf) (g : cg) (m : Nat), lf1 0 = (4, 107) ∧ lf1 2 = (0, (m : Int)) ∧ lf1 3 = (0, 8) ∧ SYI c ca g np N W P (np * 8) m ∧ zr sv L (n1 + 1) 155 29 lf1 [] g o := by
  refine zloop (fun t lf g => t ≤ 8 ∧ ∃ m : Nat, lf 0 = (4, 107) ∧ lf 2 = (0, (m : Int)) ∧ lf 3 = (0, (t : Int)) ∧ SYI c ca g np N W P (np * t) m) _ ?_ n 0 lf ca ⟨by omega, 0, h0, h2, ht, rfl, fun _ _ _ => rfl, fun x hx => absurd hx (by rw [Nat.mul_zero]; exact Nat.not_lt_zero x)⟩ h
  intro n t lf g ⟨ht8, m, b0, b2, b3, hS⟩ h
  have hX := mul_t h5 ht8
  have hm : m ≤ 40 := by
    have := cnt_le (f := sy c np N W P) (np * t)
    rw [hS.1]; omega
  by_cases hlt : t < 8
  · obtain ⟨lf2, y0, y2, y3, y4, h⟩ := t_swy29s hm (by omega) h b0 b2 b3
    refine Or.inr (zloop2 (fun q lf g => q ≤ np ∧ ∃ m : Nat, lf 0 = (4, 107) ∧ lf 2 = (0, (m : Int)) ∧ lf 3 = (0, (t : Int)) ∧ lf 4 = (0, (q : Int)) ∧ SYI c ca g np N W P (np * t + q) m) (fun n => ∃ lf' g', (t + 1 ≤ 8 ∧ ∃ m : Nat, lf' 0 = (4, 107) ∧ lf' 2 = (0, (m : Int)) ∧ lf' 3 = (0, ((t + 1 : Nat) : Int)) ∧ SYI c ca g' np N W P (np * (t + 1)) m) ∧ zr sv L n 155 29 lf' [] g' o) ?_ ?_ n 0 lf2 g ⟨by omega, m, y0, y2, y3, y4, hS⟩ h)
    · intro n ⟨lf', g', a, b⟩
      exact ⟨lf', g', a, zr_m b⟩
    · intro n q lf g ⟨hq, m, d0, d2, d3, d4, hS⟩ h
      obtain ⟨s1, s2, s3⟩ := id hS
      have g3 : g 3 0 = (np : Int) := by rw [s2 3 0 (by decide), hb 3 0 (by decide)]; exact h3
      have hmm : m ≤ np * t + q := by rw [s1]; exact cnt_le _
      by_cases hlq : q < np
      · have hXq := mul_q h5 hlt hlq
        obtain ⟨g1, r1, k1, h⟩ := t_swy38s (by omega) (by omega) (by omega) h5 g3 hlq h d0 d2 d3 d4
        obtain ⟨u1, u2⟩ := oI (hind_at hA (fun k j hk => by rw [s2 k j (by omega)]; exact hb k j hk) (fun k j k1 k2 => s2 k j (by omega)) hV hw hW hP (by omega) (by omega) hN16 hN k1 rfl rfl rfl)
        rw [u1, u2] at h
        rcases h with ⟨z, lf3, w0, w2, w3, w4, h⟩ | ⟨z, lf3, w0, w2, w3, w4, h⟩
        · have hf : sy c np N W P (np * t + q) = false := by rw [sy_at hlq]; exact decide_eq_false z
          refine Or.inr ⟨lf3, g, ⟨hlq, m, w0, w2, w3, by rw [w4]; exact congrArg _ (Int.add_comm _ _), ?_, s2, fun x hx hx2 => ?_⟩, h⟩
          · rw [show np * t + (q + 1) = np * t + q + 1 from rfl, cnt_n hf]; exact s1
          · by_cases e : x = np * t + q
            · rw [e, hf] at hx2; cases hx2
            · exact s3 x (by omega) hx2
        · have hf : sy c np N W P (np * t + q) = true := by rw [sy_at hlq]; exact decide_eq_true z
          refine Or.inr ⟨lf3, _, ⟨hlq, m + 1, w0, by rw [w2]; exact congrArg _ (Int.add_comm _ _), w3, by rw [w4]; exact congrArg _ (Int.add_comm _ _), ?_, fun k j hk => by rw [cup_ne (by omega)]; exact s2 k j hk, fun x hx hx2 => ?_⟩, h⟩
          · rw [show np * t + (q + 1) = np * t + q + 1 from rfl, cnt_s hf, s1]
          · by_cases e : x = np * t + q
            · rw [e, ← s1, cup_at, (posd hlq).1, (posd hlq).2]
            · have l1 := cnt_mono (f := sy c np N W P) (show x + 1 ≤ np * t + q by omega)
              rw [cnt_s hx2] at l1
              rw [cup_ne (by omega)]
              exact s3 x (by omega) hx2
      · have eq : q = np := by omega
        subst eq
        have hX2 := mul_t (t := t + 1) h5 hlt
        rw [mul_s] at hX2
        obtain ⟨lf3, w0, w2, w3, h⟩ := t_swy38e (by omega) (by omega) (by omega) h5 g3 (Nat.le_refl _) h d0 d2 d3 d4
        exact Or.inl ⟨lf3, g, ⟨by omega, m, w0, w2, by rw [w3]; exact congrArg _ (Int.add_comm _ _), by rw [mul_s]; exact hS⟩, h⟩
  · have et : t = 8 := by omega
    subst et
    exact Or.inl ⟨n, lf, g, m, b0, b2, b3, hS, h⟩
/-- the reference: how many -/
theorem m_sbl_ok (h5 : np ≤ 5) (h6 : nq ≤ 6) (hN16 : N ≤ 16) (hN : d 254 2 = (N : Int)) (hp : d 254 0 = (np : Int)) (hV : OHV c N) (hR : OHR c d N) (hU : UQ c N) (hS : PRS c d nq) (hW : W < nq) (hP : P < nq) (hO : ∀ k : Nat, k < N → ohp c k < nq) (hs : RTS c d) (h : zr sv L n 242 0 lf [] d o) (h0 : lf 0 = (4, 253)) (h1 : lf 1 = (0, (W : Int))) (h2 : lf 2 = (0, (P : Int))) : o = (d, some (0, (cnt (sy c np N W P) (np * 8) : Int))) := by
  obtain ⟨lf1, a0, a1, a2, a3, a4, h⟩ := m_sbl0 (by omega) (by omega) h h0 h1 h2
  refine zloop (fun t lf g => g = d ∧ t ≤ 8 ∧ lf 0 = (4, 253) ∧ lf 1 = (0, (W : Int)) ∧ lf 2 = (0, (P : Int)) ∧ lf 3 = (0, (cnt (sy c np N W P) (np * t) : Int)) ∧ lf 4 = (0, (t : Int))) _ ?_ n 0 lf1 d ⟨rfl, by omega, a0, a1, a2, a3, a4⟩ h
  intro n t lf g ⟨e, ht8, b0, b1, b2, b3, b4⟩ hzt
  subst e
  have h := hzt
  have hX := mul_t h5 ht8
  have hm := cnt_le (f := sy c np N W P) (np * t)
  by_cases hlt : t < 8
  · obtain ⟨lf2, y0, y1, y2, y3, y4, y5, h⟩ := m_sbl5s (by omega) (by omega) (by omega) (by omega) h b0 b1 b2 b3 b4
    refine Or.inr (zloop2 (fun q lf g' => g' = g ∧ q ≤ np ∧ lf 0 = (4, 253) ∧ lf 1 = (0, (W : Int)) ∧ lf 2 = (0, (P : Int)) ∧ lf 3 = (0, (cnt (sy c np N W P) (np * t + q) : Int)) ∧ lf 4 = (0, (t : Int)) ∧ lf 5 = (0, (q : Int))) (fun n => ∃ lf' g', (g' = g ∧ t + 1 ≤ 8 ∧ lf' 0 = (4, 253) ∧ lf' 1 = (0, (W : Int)) ∧ lf' 2 = (0, (P : Int)) ∧ lf' 3 = (0, (cnt (sy c np N W P) (np * (t + 1)) : Int)) ∧ lf' 4 = (0, ((t + 1 : Nat) : Int))) ∧ zr sv L n 242 5 lf' [] g' o) ?_ ?_ n 0 lf2 g ⟨rfl, by omega, y0, y1, y2, y3, y4, y5⟩ h)
    · intro n ⟨lf', g', a, b⟩
      exact ⟨lf', g', a, zr_m b⟩
    · intro n q lf g' ⟨e, hq, d0, d1, d2, d3, d4, d5⟩ hzq
      subst e
      have h := hzq
      have hmq := cnt_le (f := sy c np N W P) (np * t + q)
      by_cases hlq : q < np
      · have hXq := mul_q h5 hlt hlq
        obtain ⟨g1, r1, k1, h⟩ := m_sbl15s (by omega) (by omega) (by omega) (by omega) (by omega) h5 hp hlq h d0 d1 d2 d3 d4 d5
        obtain ⟨v1, v2⟩ := oI (m_why_ok (nq := nq) (by omega) (by omega) (by omega) (by omega) hN16 hN hV hR hU hS hW hP hO hs k1 rfl rfl rfl rfl rfl)
        rw [v1, v2] at h
        rcases h with ⟨z, lf3, w0, w1, w2, w3, w4, w5, h⟩ | ⟨z, lf3, w0, w1, w2, w3, w4, w5, h⟩
        · have hf : sy c np N W P (np * t + q) = false := by rw [sy_at hlq]; exact decide_eq_false z
          exact Or.inr ⟨lf3, _, ⟨rfl, hlq, w0, w1, w2, by rw [w3, show np * t + (q + 1) = np * t + q + 1 from rfl, cnt_n hf], w4, by rw [w5]; exact congrArg _ (Int.add_comm _ _)⟩, h⟩
        · have hf : sy c np N W P (np * t + q) = true := by rw [sy_at hlq]; exact decide_eq_true z
          exact Or.inr ⟨lf3, _, ⟨rfl, hlq, w0, w1, w2, by rw [w3, show np * t + (q + 1) = np * t + q + 1 from rfl, cnt_s hf]; exact congrArg _ (Int.add_comm _ _), w4, by rw [w5]; exact congrArg _ (Int.add_comm _ _)⟩, h⟩
      · have eq : q = np := by omega
        subst eq
        have hX2 := mul_t (t := t + 1) h5 hlt
        rw [mul_s] at hX2
        obtain ⟨lf3, w0, w1, w2, w3, w4, h⟩ := m_sbl15e (by omega) (by omega) (by omega) (by omega) (by omega) h5 hp (Nat.le_refl _) h d0 d1 d2 d3 d4 d5
        exact Or.inl ⟨lf3, _, ⟨rfl, by omega, w0, w1, w2, by rw [mul_s]; exact w3, by rw [w4]; exact congrArg _ (Int.add_comm _ _)⟩, h⟩
  · have et : t = 8 := by omega
    subst et
    exact Or.inl (m_sbl5e (by omega) h b0 b3 b4)
/-- the reference: the one drawn -/
theorem m_swa_ok {j : Nat} (h5 : np ≤ 5) (h6 : nq ≤ 6) (hN16 : N ≤ 16) (hN : d 254 2 = (N : Int)) (hp : d 254 0 = (np : Int)) (hV : OHV c N) (hR : OHR c d N) (hU : UQ c N) (hS : PRS c d nq) (hW : W < nq) (hP : P < nq) (hO : ∀ k : Nat, k < N → ohp c k < nq) (hs : RTS c d) (hj : j < cnt (sy c np N W P) (np * 8)) (h : zr sv L n 252 23 lf [] d o) (h0 : lf 0 = (4, 253)) (h1 : lf 1 = (0, (W : Int))) (h2 : lf 2 = (0, (P : Int))) (h4 : lf 4 = (0, (j : Int))) (hk : lf 5 = (0, 0)) : ∃ x : Nat, x < np * 8 ∧ sy c np N W P x = true ∧ cnt (sy c np N W P) x = j ∧ ∃ (n1 : Nat) (g2 : cg) (r2 : Int), zr sv L n1 254 0 (darg 0 [(4, 253), (0, (W : Int)), (0, (P : Int)), (0, ((x % np : Nat) : Int)), (0, ((x / np : Nat) : Int))]) [] d (g2, some (0, r2)) ∧ o = (g2, some (0, r2)) := by
  have hX := mul_t h5 (Nat.le_refl 8)
  have hj40 := cnt_le (f := sy c np N W P) (np * 8)
  refine zloop (fun k lf g => g = d ∧ k ≤ np * 8 ∧ ∃ l : Nat, cnt (sy c np N W P) k + l = j ∧ lf 0 = (4, 253) ∧ lf 1 = (0, (W : Int)) ∧ lf 2 = (0, (P : Int)) ∧ lf 4 = (0, (l : Int)) ∧ lf 5 = (0, (k : Int))) _ ?_ n 0 lf d ⟨rfl, by omega, j, Nat.zero_add j, h0, h1, h2, h4, hk⟩ h
  intro n k lf g ⟨e, hk, l, hl, b0, b1, b2, b4, b5⟩ hzk
  subst e
  have h := hzk
  by_cases hlt : k < np * 8
  · have hn0 : 0 < np := by
      by_cases q : np = 0
      · rw [q, Nat.zero_mul] at hlt; omega
      · omega
    have hq := Nat.mod_lt k hn0
    have ht : k / np < 8 := Nat.div_lt_of_lt_mul hlt
    obtain ⟨g1, r1, k1, h⟩ := m_swa23s (by omega) (by omega) (by omega) (by omega) h5 hp (by omega) h b0 b1 b2 b4 b5
    rw [qre_n (by omega) hn0 (by omega), qdi_n (by omega) hn0 (by omega)] at k1 h
    obtain ⟨v1, v2⟩ := oI (m_why_ok (nq := nq) (by omega) (by omega) (by omega) (by omega) hN16 hN hV hR hU hS hW hP hO hs k1 rfl rfl rfl rfl rfl)
    rw [v1, v2] at h
    have w0 := whys_n (c := c) (N := N) (P := P) (Q := k % np) (T := k / np) (W := W)
    rcases h with ⟨⟨z, z2⟩, lf3, w0, w1, w2, w4, w5, h⟩ | ⟨⟨z, z2⟩, g2, r2, k2, o⟩ | ⟨z, lf3, w0, w1, w2, w4, w5, h⟩
    · have hf : sy c np N W P k = true := decide_eq_true (by omega)
      refine Or.inr ⟨lf3, _, ⟨rfl, hlt, l - 1, by rw [cnt_s hf]; omega, w0, w1, w2, by rw [w4]; exact congrArg _ (by omega), by rw [w5]; exact congrArg _ (Int.add_comm _ _)⟩, h⟩
    · have hf : sy c np N W P k = true := decide_eq_true (by omega)
      exact Or.inl ⟨k, hlt, hf, by omega, n, g2, r2, k2, o⟩
    · have hf : sy c np N W P k = false := decide_eq_false (by omega)
      exact Or.inr ⟨lf3, _, ⟨rfl, hlt, l, by rw [cnt_n hf]; exact hl, w0, w1, w2, w4, by rw [w5]; exact congrArg _ (Int.add_comm _ _)⟩, h⟩
  · have ek : k = np * 8 := by omega
    subst ek
    exfalso; omega
/-- SWEAR any of the TRIALS -/
theorem swy_pr (hC : CT c d np nq N) (hG : GD c np nq N) (hD : DRW c d) (hk : k ≤ 59) (hW : W < nq) (hP : P < nq) (e1 : c 10 k = (W : Int)) (e2 : c 11 k = (P : Int)) (h : zr sv L n 155 0 lf [] c (c', none)) (h0 : lf 0 = (4, 107)) (h1 : lf 1 = (0, (k : Int))) (h' : zr sv L n' 252 0 lf' [] d (d', some (0, r'))) (h0' : lf' 0 = (4, 253)) (h1' : lf' 1 = (0, (W : Int))) (h2' : lf' 2 = (0, (P : Int))) : LST c d c' d' np nq := by
  obtain ⟨⟨b5, b6, hN⟩, ⟨c0, c3, c9⟩, ⟨d0, d1, d2⟩, ⟨t3, t4, t5, t6⟩, -, hS, -⟩ := id hC
  have hV := hG.hv b5 b6
  have hR := hC.hr hG
  have hw := (hG.2.2.1 W hW).wok
  have hO : ∀ k : Nat, k < N → ohp c k < nq := fun k hk => ((hG.2.2.2.1 k hk).v b5 b6).2.2.1
  obtain ⟨dr, dr1, dr2, dr3⟩ := hD
  obtain ⟨g1, k1, lf1, y0, y2, y3, h⟩ := t_swy0 hk (by omega) (by omega) e2 e1 h h0 h1
  obtain ⟨ca, o1, hA⟩ := ask_okl (nq := nq) (by omega) (by omega) hN c9 hV hW hG.fr6 k1 rfl rfl rfl
  have x1 := oV o1
  rw [x1] at h
  have FA : ∀ k j : Nat, ¬ (110 ≤ k ∧ k ≤ 112) → ca k j = c k j := fun k j hk => hA.1.1 k j (by omega) (by omega) (by omega)
  have hb : CB c ca := fun k j hk => FA k j (by omega)
  obtain ⟨n1, lf2, g, m, z0, z2, z3, ⟨s1, s2, s3⟩, h⟩ := swy_l hA hb hV hw b5 (by omega) (by omega) hN c9 c0 h y0 y2 y3
  have hX := mul_t b5 (Nat.le_refl 8)
  have hm : m ≤ 40 := by
    have := cnt_le (f := sy c np N W P) (np * 8)
    rw [s1]; omega
  have FG : ∀ k j : Nat, k ≠ 109 → ¬ (110 ≤ k ∧ k ≤ 112) → g k j = c k j := fun k j i1 i2 => by rw [s2 k j i1, FA k j i2]
  obtain ⟨q1, r1, q2, h'⟩ := m_swa0 (by omega) (by omega) h' h0' h1' h2'
  obtain ⟨v1, v2⟩ := oI (m_sbl_ok b5 b6 hN d2 d0 hV hR hG.2.2.2.2 hS hW hP hO ⟨t3, t4⟩ q2 rfl rfl rfl)
  rw [v1, v2, ← s1] at h'
  rcases t_swy29e hm h z0 z2 z3 with ⟨z, g3, r3, k3, h⟩ | ⟨z, o⟩
  · rcases h' with ⟨-, g4, r4, k4, lf3, x0, x1, x2, x4, x5, h'⟩ | ⟨z', -⟩
    · have dg : g 107 5 = (dr : Int) := by rw [FG _ _ (by omega) (by omega)]; exact dr2
      have em : (11149 + 2953 * (dr : Int)) = ((11149 + 2953 * dr : Nat) : Int) := by omega
      have hD0 : (11149 + 2953 * dr) % 65536 < 65536 := Nat.mod_lt _ (by decide)
      have hD1 : qre (11149 + 2953 * (dr : Int)) 65536 = (((11149 + 2953 * dr) % 65536 : Nat) : Int) := by
        rw [em]; exact qre_n (b := 65536) (by omega) (by decide) (by decide)
      generalize (11149 + 2953 * dr) % 65536 = D at hD0 hD1
      have hD2 : qdi (D : Int) 8 = ((D / 8 : Nat) : Int) := qdi_n (b := 8) (by omega) (by decide) (by decide)
      have hD3 : qre ((D / 8 : Nat) : Int) (m : Int) = ((D / 8 % m : Nat) : Int) := qre_n (by omega) (by omega) (by omega)
      have hj : D / 8 % m < m := Nat.mod_lt _ (by omega)
      generalize D / 8 % m = j at hD3 hj
      obtain ⟨w1, w2⟩ := oI (m_dra hm dr1 dr3 k4 rfl rfl)
      rw [hD1, hD2, hD3] at w2
      rw [hD1] at w1
      rcases t_draw hm dr1 dg k3 rfl rfl with ⟨-, o⟩ | ⟨q, -⟩
      · obtain ⟨u1, u2⟩ := oI o
        rw [hD1, hD2, hD3] at u2
        rw [hD1] at u1
        rw [u2] at h
        obtain ⟨g5, r5, k5, g6, r6, k6, g7, k7, o⟩ := h (by omega) (by omega)
        -- the reference's one
        rw [w2] at x4
        have N4 : ∀ k j : Nat, ¬ (k = 253 ∧ j = 33) → g4 k j = d k j := fun k j i1 => by rw [w1, cup_ne i1]
        have sc0 : SCL c c np nq N := ⟨fun _ _ => rfl, fun _ _ => rfl, fun _ _ => ⟨fun _ _ _ => rfl, fun _ _ => rfl⟩, fun _ _ _ _ => rfl⟩
        have hC4 : CT c g4 np nq N := hC.mv sc0 (fun j _ => N4 254 j (by omega))
        obtain ⟨⟨-, -, -⟩, -, ⟨i0, i1, i2⟩, ⟨j3, j4, -⟩, -, hS4, -⟩ := id hC4
        have hR4 := hC4.hr hG
        obtain ⟨x, hx, hx1, hx2, n2, g8, r8, k8, o8⟩ := m_swa_ok b5 b6 hN i2 i0 hV hR4 hG.2.2.2.2 hS4 hW hP hO ⟨j3, j4⟩ (show j < cnt (sy c np N W P) (np * 8) by rw [← s1]; exact hj) h' x0 x1 x2 x4 x5
        obtain ⟨u3, u4⟩ := oI o8
        have hn0 : 0 < np := by
          by_cases q : np = 0
          · rw [q, Nat.zero_mul] at hx; omega
          · omega
        have hq := Nat.mod_lt x hn0
        have ht : x / np < 8 := Nat.div_lt_of_lt_mul hx
        have hwhy : whys c N W P (x % np) (x / np) = 0 := of_decide_eq_true hx1
        have hch := s3 x hx hx1
        rw [hx2] at hch
        have G3 : ∀ k j : Nat, ¬ (k = 107 ∧ j = 5) → g3 k j = g k j := fun k j i1 => by rw [u1, cup_ne i1]
        have hch3 : g3 109 j = ((x % np + 5 * (x / np) : Nat) : Int) := by rw [G3 _ _ (by omega), hch]; omega
        generalize x % np = Qx at hq hwhy hch3 k8
        generalize x / np = Tx at ht hwhy hch3 k8
        have eQ : qre (g3 109 ((j : Int)).toNat) 5 = (Qx : Int) := by
          rw [show ((j : Int)).toNat = j from rfl, hch3, show (5 : Int) = ((5 : Nat) : Int) from rfl, qre_n (by omega) (by decide) (by decide)]; omega
        have eT : qdi (g3 109 ((j : Int)).toNat) 5 = (Tx : Int) := by
          rw [show ((j : Int)).toNat = j from rfl, hch3, show (5 : Int) = ((5 : Nat) : Int) from rfl, qdi_n (by omega) (by decide) (by decide)]; omega
        rw [eQ, eT] at k5 k6
        have h3b : CB c g3 := fun k j hk => by rw [G3 k j (by omega), FG k j (by omega) (by omega)]
        have h3a : ∀ k j : Nat, 110 ≤ k → k ≤ 112 → g3 k j = ca k j := fun k j i1 i2 => by rw [G3 k j (by omega), s2 k j (by omega)]
        obtain ⟨p1, p2⟩ := oI (price_at hA h3b h3a hV hw (by omega) (by omega) (by omega) (by omega) hN k5 rfl rfl rfl)
        rw [p1, p2, h3a 110 1 (by decide) (by decide), h3a 110 2 (by decide) (by decide), hA.1.2.1.1, hA.1.2.1.2] at k6
        obtain ⟨g9, r9, q9, k8⟩ := m_swb (by omega) (by omega) (by omega) (by omega) k8 rfl rfl rfl rfl rfl
        obtain ⟨v3, v4⟩ := oI (m_why_ok (nq := nq) (by omega) (by omega) (by omega) (by omega) hN i2 hV hR4 hG.2.2.2.2 hS4 hW hP hO ⟨j3, j4⟩ q9 rfl rfl rfl rfl rfl)
        rw [v3, v4] at k8
        rcases k8 with ⟨-, gx, kx, ox⟩ | ⟨q', -⟩
        · obtain ⟨cb, db, n15, e1, e2, e3, e4, e5, e6, e7⟩ := ent_pr hC4 hG h3b hW hP hq ht hwhy k6 rfl rfl rfl rfl rfl rfl kx rfl rfl rfl rfl rfl
          obtain ⟨f1, f2⟩ := oI e1
          have f3 := oV e2
          rw [f1, f2] at k7
          rw [f3] at ox
          obtain ⟨y, ox⟩ := swb_pr e3.2.2.1.2.2 n15 ox
          obtain ⟨f4, f5⟩ := oI ox
          have f6 := oV o
          rw [← f6] at k7
          obtain ⟨a1, a2, a3⟩ := note_pr n15 e3 e4 k7 rfl rfl (u3.trans f4)
          have F : ∀ k j : Nat, ¬ (29 ≤ k ∧ k < 45 ∧ j = 7) → ¬ (k = 107 ∧ 9 ≤ j ∧ j ≤ 10) → ¬ (k = 3 ∧ 8 ≤ j ∧ j ≤ 9) → (k < 17 ∨ 45 ≤ k) → ¬ (109 ≤ k ∧ k ≤ 112) → ¬ (k = 107 ∧ j = 5) → c' k j = c k j := fun k j i1 i2 i3 i4 i5 i6 => by rw [a2 k j i1 i2, e5 k j i3 i4, G3 k j i6, FG k j (by omega) (by omega)]
          refine ⟨⟨N + 1, a1⟩, ⟨fun k j i1 i2 => F k j (by omega) (by omega) i1 (by omega) (by omega) (by omega), fun i hi => by rw [a2 _ _ (by omega) (by omega)]; exact e6 i hi, ⟨F _ _ (by omega) (by omega) (by omega) (by omega) (by omega) (by omega), F _ _ (by omega) (by omega) (by omega) (by omega) (by omega) (by omega)⟩, fun j => F _ _ (by omega) (by omega) (by omega) (by omega) (by omega) (by omega), fun k j hk => F _ _ (by omega) (by omega) (by omega) (by omega) (by omega) (by omega)⟩, ⟨fun k j i1 i2 i3 => by rw [a3 k j (by omega), e7.1 k j i1, N4 k j i3], fun j hj => by rw [a3 _ _ (by omega), e7.2 j hj, N4 _ _ (by omega)], by rw [a3 _ _ (by omega), e7.1 _ _ (by omega), N4 _ _ (by omega)]⟩, D, by omega, ?_, ?_⟩
          · rw [a2 _ _ (by omega) (by omega), e5 _ _ (by omega) (by omega), u1, cup_at]
          · rw [a3 _ _ (by omega), e7.1 _ _ (by omega), w1, cup_at]
        · exfalso; omega
      · exfalso; omega
    · exfalso; omega
  · rcases h' with ⟨z', -⟩ | ⟨-, o'⟩
    · exact absurd z z'
    · have u1 := oV o
      obtain ⟨u3, u4⟩ := oI o'
      have F : ∀ k j : Nat, ¬ (k = 107 ∧ j = 8) → ¬ (109 ≤ k ∧ k ≤ 112) → c' k j = c k j := fun k j i1 i2 => by rw [u1, cup_ne i1, FG k j (by omega) (by omega)]
      have sc : SCL c c' np nq N := SCL.of b5 b6 hN (fun k j k1 k2 => F k j (by omega) (by omega))
      exact ⟨⟨N, hC.mv sc (fun j _ => by rw [u3]), hG.mv b5 b6 sc⟩, ⟨fun k j _ k2 => F k j (by omega) (by omega), fun i hi => F _ _ (by omega) (by omega), ⟨F _ _ (by omega) (by omega), F _ _ (by omega) (by omega)⟩, fun j => F _ _ (by omega) (by omega), fun k j hk => F _ _ (by omega) (by omega)⟩, ⟨fun k j _ _ _ => by rw [u3], fun j _ => by rw [u3], by rw [u3]⟩, dr, dr1, by rw [F _ _ (by omega) (by omega)]; exact dr2, by rw [u3]; exact dr3⟩
end Any
