/-! small answers: DOUBT, knows, known, oath, liars, word -/
theorem bc32 : ∀ x : Nat, x < 32 → ban (w32 ((w32 ((ban (w32 ((w32 ((ban (w32 ((x : Int) - (ban (bus (x : Int) 1) 1431655765))) 858993459) + (ban (bus (w32 ((x : Int) - (ban (bus (x : Int) 1) 1431655765))) 2) 858993459))) + (bus (w32 ((ban (w32 ((x : Int) - (ban (bus (x : Int) 1) 1431655765))) 858993459) + (ban (bus (w32 ((x : Int) - (ban (bus (x : Int) 1) 1431655765))) 2) 858993459))) 4))) 252645135) + (bus (ban (w32 ((w32 ((ban (w32 ((x : Int) - (ban (bus (x : Int) 1) 1431655765))) 858993459) + (ban (bus (w32 ((x : Int) - (ban (bus (x : Int) 1) 1431655765))) 2) 858993459))) + (bus (w32 ((ban (w32 ((x : Int) - (ban (bus (x : Int) 1) 1431655765))) 858993459) + (ban (bus (w32 ((x : Int) - (ban (bus (x : Int) 1) 1431655765))) 2) 858993459))) 4))) 252645135) 8))) + (bus (w32 ((ban (w32 ((w32 ((ban (w32 ((x : Int) - (ban (bus (x : Int) 1) 1431655765))) 858993459) + (ban (bus (w32 ((x : Int) - (ban (bus (x : Int) 1) 1431655765))) 2) 858993459))) + (bus (w32 ((ban (w32 ((x : Int) - (ban (bus (x : Int) 1) 1431655765))) 858993459) + (ban (bus (w32 ((x : Int) - (ban (bus (x : Int) 1) 1431655765))) 2) 858993459))) 4))) 252645135) + (bus (ban (w32 ((w32 ((ban (w32 ((x : Int) - (ban (bus (x : Int) 1) 1431655765))) 858993459) + (ban (bus (w32 ((x : Int) - (ban (bus (x : Int) 1) 1431655765))) 2) 858993459))) + (bus (w32 ((ban (w32 ((x : Int) - (ban (bus (x : Int) 1) 1431655765))) 858993459) + (ban (bus (w32 ((x : Int) - (ban (bus (x : Int) 1) 1431655765))) 2) 858993459))) 4))) 252645135) 8))) 16))) 63 = (pc6 x : Int) := by decide +kernel
section Ans2
variable {sv : Nat → Int32} {L : Nat} {n n' : Nat} {lf lf' : dlf} {c d c' d' : cg} {np nq N P Q T : Nat} {a b e f r r' : Int} {o : cg × Option cv}
theorem plcs_ok (hV : OHV c N) (hN16 : N ≤ 16) (hN : c 3 9 = (N : Int)) (hP : P ≤ 5) (hT : T ≤ 7) (h : zr sv L n 125 0 lf [] c o) (h0 : lf 0 = (4, 3)) (h1 : lf 1 = (0, (P : Int))) (h2 : lf 2 = (0, (T : Int))) : o = (c, some (0, (pmk c P T N : Int))) := by
  obtain ⟨lf1, a0, a1, a2, a3, a4, h⟩ := t_plc0 hP hT h h0 h1 h2
  refine zloop (fun k lf g => g = c ∧ k ≤ N ∧ lf 0 = (4, 3) ∧ lf 1 = (0, (P : Int)) ∧ lf 2 = (0, (T : Int)) ∧ lf 3 = (0, (pmk c P T k : Int)) ∧ lf 4 = (0, (k : Int))) _ ?_ n 0 lf1 c ⟨rfl, by omega, a0, a1, a2, a3, a4⟩ h
  intro n k lf g ⟨e, hk, b0, b1, b2, b3, b4⟩ hzk
  subst e
  have h := hzk
  by_cases hlt : k < N
  · obtain ⟨v1, v2, v3, v4, v5⟩ := hV k hlt
    have lt := pmk_lt (P := P) (T := T) hV k (by omega)
    rcases t_plc_s hP hT v2 v3 v4 v5 (by omega) hN16 hN v1 hlt h b0 b1 b2 b3 b4 with ⟨z, lf2, y0, y1, y2, y3, y4, h⟩ | ⟨z, lf2, y0, y1, y2, y3, y4, h⟩
    · have hf : isof g P T k = false := isof_f (by omega)
      exact Or.inr ⟨lf2, _, ⟨rfl, hlt, y0, y1, y2, by rw [y3, pmk_f hf], by rw [y4]; exact congrArg _ (Int.add_comm _ _)⟩, h⟩
    · have hf : isof g P T k = true := isof_t z.1 z.2.1 z.2.2
      rw [(bor6 _ (by omega) _ (by omega)).1] at y3
      exact Or.inr ⟨lf2, _, ⟨rfl, hlt, y0, y1, y2, by rw [y3, pmk_t hf], by rw [y4]; exact congrArg _ (Int.add_comm _ _)⟩, h⟩
  · have ek : k = N := by omega
    subst ek
    exact Or.inl (t_plc_e hP hT hN16 hN16 hN (Nat.le_refl _) h b0 b1 b2 b3 b4)
theorem dbo_ok (hV : OHV c N) (hN16 : N ≤ 16) (hN : c 3 9 = (N : Int)) (hP : P ≤ 5) (h : zr sv L n 124 0 lf [] c o) (h0 : lf 0 = (4, 3)) (h1 : lf 1 = (0, (P : Int))) : o = (c, some (0, (cnt (dbh c P N) 8 : Int))) := by
  obtain ⟨lf1, a0, a1, a2, a3, h⟩ := t_dbo0 hP h h0 h1
  refine zloop (fun T lf g => g = c ∧ T ≤ 8 ∧ lf 0 = (4, 3) ∧ lf 1 = (0, (P : Int)) ∧ lf 2 = (0, (cnt (dbh c P N) T : Int)) ∧ lf 3 = (0, (T : Int))) _ ?_ n 0 lf1 c ⟨rfl, by omega, a0, a1, a2, a3⟩ h
  intro n T lf g ⟨e, hT, b0, b1, b2, b3⟩ hzT
  subst e
  have h := hzT
  have cl := cnt_le (f := dbh g P N) T
  by_cases hlt : T < 8
  · obtain ⟨g1, r1, k1, g2, r2, k2, h⟩ := t_dbo_s hP (by omega) (by omega) h b0 b1 b2 b3
    obtain ⟨u1, u2⟩ := oI (plcs_ok hV hN16 hN hP (by omega) k1 rfl rfl rfl)
    rw [u1, u2] at k2
    have lt := pmk_lt (P := P) (T := T) hV N (Nat.le_refl N)
    have q := t_bc k2 rfl
    rw [bc32 _ lt] at q
    obtain ⟨v1, v2⟩ := oI q
    rw [v1, v2] at h
    rcases h with ⟨z, lf2, y0, y1, y2, y3, h⟩ | ⟨z, lf2, y0, y1, y2, y3, h⟩
    · have hf : dbh g P N T = false := decide_eq_false (by omega)
      exact Or.inr ⟨lf2, _, ⟨rfl, hlt, y0, y1, by rw [y2, cnt_n hf], by rw [y3]; exact congrArg _ (Int.add_comm _ _)⟩, h⟩
    · have hf : dbh g P N T = true := decide_eq_true (by omega)
      exact Or.inr ⟨lf2, _, ⟨rfl, hlt, y0, y1, by rw [y2, cnt_s hf]; exact congrArg _ (Int.add_comm _ _), by rw [y3]; exact congrArg _ (Int.add_comm _ _)⟩, h⟩
  · have ek : T = 8 := by omega
    subst ek
    exact Or.inl (t_dbo_e hP (by omega) h b0 b1 b2 b3)
theorem dbt_op (hC : CT c d np nq N) (hG : GD c np nq N) (h : zr sv L n 331 0 lf [] c (c', some (0, r))) (h0 : lf 0 = (4, 0)) (h1 : lf 1 = (0, a)) (h' : zr sv L n' 332 0 lf' [] d (d', some (0, r'))) (h0' : lf' 0 = (4, 253)) (h1' : lf' 1 = (0, a)) : r = r' ∧ OPR c' d' np nq c d := by
  obtain ⟨⟨h5, h6, hN⟩, ⟨c0, c3, c9⟩, ⟨d0, d1, d2⟩, -⟩ := id hC
  have hV := hG.hv h5 h6
  rcases t_a_dbt h h0 h1 with ⟨z, o⟩ | ⟨z, g1, r1, k1, o⟩
  · rcases m_a_dbt h' h0' h1' with ⟨z', o'⟩ | ⟨z', -⟩
    · obtain ⟨u1, u2⟩ := oI o
      obtain ⟨v1, v2⟩ := oI o'
      exact ⟨by omega, opr_st hC hG u1 v1⟩
    · exfalso; omega
  · rcases m_a_dbt h' h0' h1' with ⟨z', -⟩ | ⟨z', g2, r2, k2, o'⟩
    · exfalso; omega
    · obtain ⟨P, rfl⟩ : ∃ P : Nat, a = (P : Int) := ⟨a.toNat, by omega⟩
      obtain ⟨y1, y2⟩ := oI (dbo_ok hV hN c9 (by omega) k1 rfl rfl)
      obtain ⟨v1, v2⟩ := oI (m_dbt_ok (by omega) hN d2 hV (hC.hr hG) k2 rfl rfl)
      obtain ⟨u1, u2⟩ := oI o
      obtain ⟨w1, w2⟩ := oI o'
      rw [y1] at u1
      rw [v1] at w1
      exact ⟨by rw [u2, w2, y2, v2], opr_st hC hG u1 w1⟩
theorem knw_op (hC : CT c d np nq N) (hG : GD c np nq N) (h : zr sv L n 285 0 lf [] c (c', some (0, r))) (h0 : lf 0 = (4, 0)) (h1 : lf 1 = (0, a)) (h2 : lf 2 = (0, b)) (h' : zr sv L n' 286 0 lf' [] d (d', some (0, r'))) (h0' : lf' 0 = (4, 253)) (h1' : lf' 1 = (0, a)) (h2' : lf' 2 = (0, b)) : r = r' ∧ OPR c' d' np nq c d := by
  obtain ⟨⟨h5, h6, hN⟩, ⟨c0, c3, c9⟩, ⟨d0, d1, d2⟩, -, -, hS, -⟩ := id hC
  rcases t_kn0 h h0 h1 h2 with ⟨z, o⟩ | ⟨z, lf2, y0, y1, y2, h⟩
  · rcases m_kn0 h' h0' h1' h2' with ⟨z', o'⟩ | ⟨z', -⟩
    · obtain ⟨u1, u2⟩ := oI o
      obtain ⟨v1, v2⟩ := oI o'
      exact ⟨by omega, opr_st hC hG u1 v1⟩
    · exfalso; omega
  · rcases m_kn0 h' h0' h1' h2' with ⟨z', -⟩ | ⟨z', lf3, x0, x1, x2, h'⟩
    · exfalso; omega
    · obtain ⟨A, rfl⟩ : ∃ A : Nat, a = (A : Int) := ⟨a.toNat, by omega⟩
      obtain ⟨B, rfl⟩ : ∃ B : Nat, b = (B : Int) := ⟨b.toNat, by omega⟩
      obtain ⟨m, m1, m2⟩ := (hG.2.2.1 A (by omega)).2.2.2.1
      obtain ⟨u1, u2⟩ := oI (t_kn15 (W := A) (P := B) (by omega) (by omega) m2 h y0 y1 y2)
      have i6 := isb6 m m1 B (by omega)
      rcases m_kn9 (W := A) (P := B) (by omega) (by omega) ((hS A (by omega)).1.2.2.2.2.trans m2) h' x0 x1 x2 with ⟨w, o'⟩ | ⟨w, o'⟩
      · obtain ⟨v1, v2⟩ := oI o'
        refine ⟨?_, opr_st hC hG u1 v1⟩
        rw [u2, v2]
        cases hq : m.testBit B with
        | true => exact absurd (i6.1.mpr hq) w
        | false => exact i6.2.mpr hq
      · obtain ⟨v1, v2⟩ := oI o'
        exact ⟨by rw [u2, v2, w], opr_st hC hG u1 v1⟩
theorem kwn_op (hC : CT c d np nq N) (hG : GD c np nq N) (h : zr sv L n 289 0 lf [] c (c', some (0, r))) (h0 : lf 0 = (4, 0)) (h1 : lf 1 = (0, a)) (h2 : lf 2 = (0, b)) (h' : zr sv L n' 290 0 lf' [] d (d', some (0, r'))) (h0' : lf' 0 = (4, 253)) (h1' : lf' 1 = (0, a)) (h2' : lf' 2 = (0, b)) : r = r' ∧ OPR c' d' np nq c d := by
  obtain ⟨⟨h5, h6, hN⟩, ⟨c0, c3, c9⟩, ⟨d0, d1, d2⟩, -, -, hS, -⟩ := id hC
  rcases t_kw0 h h0 h1 h2 with ⟨z, o⟩ | ⟨z, lf2, y0, y1, y2, h⟩
  · rcases m_kw0 h' h0' h1' h2' with ⟨z', o'⟩ | ⟨z', -⟩
    · obtain ⟨u1, u2⟩ := oI o
      obtain ⟨v1, v2⟩ := oI o'
      exact ⟨by omega, opr_st hC hG u1 v1⟩
    · exfalso; omega
  · rcases m_kw0 h' h0' h1' h2' with ⟨z', -⟩ | ⟨z', lf3, x0, x1, x2, h'⟩
    · exfalso; omega
    · obtain ⟨A, rfl⟩ : ∃ A : Nat, a = (A : Int) := ⟨a.toNat, by omega⟩
      obtain ⟨B, rfl⟩ : ∃ B : Nat, b = (B : Int) := ⟨b.toNat, by omega⟩
      rcases t_kw24 (P := A) (T := B) (by omega) (by omega) (show c (18 + 2 * A) B = trh c A B from rfl) h y0 y1 y2 with ⟨w, o⟩ | ⟨w, o⟩ <;> rcases m_kw15 (P := A) (T := B) (by omega) (by omega) ((hS A (by omega)).2 B (by omega)) h' x0 x1 x2 with ⟨w', o'⟩ | ⟨w', o'⟩ <;> obtain ⟨u1, u2⟩ := oI o <;> obtain ⟨v1, v2⟩ := oI o'
      · exact ⟨by rw [u2, v2], opr_st hC hG u1 v1⟩
      · exact absurd w' w
      · exact absurd w w'
      · exact ⟨by rw [u2, v2], opr_st hC hG u1 v1⟩
theorem lab_ok (hV : OHV c N) (hN16 : N ≤ 16) (hN : c 3 9 = (N : Int)) (hP : P ≤ 5) (h : zr sv L n 141 0 lf [] c o) (h0 : lf 0 = (4, 3)) (h1 : lf 1 = (0, (P : Int))) : ∃ m : Nat, o = (c, some (0, (m : Int))) ∧ wset c (lip c P) N m := by
  obtain ⟨lf1, a0, a1, a2, a3, h⟩ := t_lab0 hP h h0 h1
  refine zloop (fun k lf g => g = c ∧ k ≤ N ∧ lf 0 = (4, 3) ∧ lf 1 = (0, (P : Int)) ∧ lf 3 = (0, (k : Int)) ∧ ∃ m : Nat, lf 2 = (0, (m : Int)) ∧ wset c (lip c P) k m) _ ?_ n 0 lf1 c ⟨rfl, by omega, a0, a1, a3, 0, a2, wset0⟩ h
  intro n k lf g ⟨e, hk, b0, b1, b3, m, b2, b4⟩ hzk
  subst e
  have h := hzk
  by_cases hlt : k < N
  · obtain ⟨v1, v2, v3, v4, v5⟩ := hV k hlt
    rcases t_lab_s hP v2 v3 v4 v5 (by omega) hN16 hN (show g (18 + 2 * ohp g k) (oht g k) = trh g (ohp g k) (oht g k) from rfl) v1 hlt h b0 b1 b2 b3 with ⟨z, lf2, y0, y1, y2, y3, h⟩ | ⟨z, lf2, y0, y1, y2, y3, h⟩
    · have hf : lip g P k = false := bf (fun q => by
        have q := lip_i.mp q
        rcases z with z | ⟨-, z⟩ | ⟨-, -, z⟩
        · omega
        · exact z q.1
        · exact q.2.2 z)
      exact Or.inr ⟨lf2, _, ⟨rfl, hlt, y0, y1, by rw [y3]; exact congrArg _ (Int.add_comm _ _), m, y2, wset_n b4 hf⟩, h⟩
    · have hf : lip g P k = true := lip_i.mpr ⟨z.2.1, by omega, z.2.2⟩
      rw [(bor6 m b4.1 _ (by omega)).1] at y2
      exact Or.inr ⟨lf2, _, ⟨rfl, hlt, y0, y1, by rw [y3]; exact congrArg _ (Int.add_comm _ _), _, y2, wset_s b4 hf v2⟩, h⟩
  · have ek : k = N := by omega
    subst ek
    exact Or.inl ⟨m, t_lab_e hP hN16 hN16 hN (Nat.le_refl _) h b0 b1 b2 b3, b4⟩
theorem tb6x : ∀ a : Nat, a < 64 → ∀ b : Nat, b < 64 → (∀ v : Nat, v < 6 → a.testBit v = b.testBit v) → a = b := by decide +kernel
theorem wset_un {f : Nat → Bool} {k m m' : Nat} (h : wset c f k m) (h' : wset c f k m') : m = m' := tb6x m h.1 m' h'.1 (fun v hv => Bool.eq_iff_iff.mpr ((h.2 v hv).trans (h'.2 v hv).symm))
theorem lia_op (hC : CT c d np nq N) (hG : GD c np nq N) (h : zr sv L n 355 0 lf [] c (c', some (0, r))) (h0 : lf 0 = (4, 0)) (h1 : lf 1 = (0, a)) (h' : zr sv L n' 356 0 lf' [] d (d', some (0, r'))) (h0' : lf' 0 = (4, 253)) (h1' : lf' 1 = (0, a)) : r = r' ∧ OPR c' d' np nq c d := by
  obtain ⟨⟨h5, h6, hN⟩, ⟨c0, c3, c9⟩, ⟨d0, d1, d2⟩, -, -, hS, -⟩ := id hC
  have hV := hG.hv h5 h6
  have hR := hC.hr hG
  rcases t_lia h h0 h1 with ⟨z, o⟩ | ⟨z, g1, r1, k1, o⟩
  · rcases m_lia0 h' h0' h1' with ⟨z', o'⟩ | ⟨z', -⟩
    · obtain ⟨u1, u2⟩ := oI o
      obtain ⟨v1, v2⟩ := oI o'
      exact ⟨by omega, opr_st hC hG u1 v1⟩
    · exfalso; omega
  · rcases m_lia0 h' h0' h1' with ⟨z', -⟩ | ⟨z', lf2, x0, x1, h'⟩
    · exfalso; omega
    · obtain ⟨P, rfl⟩ : ∃ P : Nat, a = (P : Int) := ⟨a.toNat, by omega⟩
      obtain ⟨m, y1, y2⟩ := lab_ok hV hN c9 (show P ≤ 5 by omega) k1 rfl rfl
      obtain ⟨y1, y3⟩ := oI y1
      obtain ⟨u1, u2⟩ := oI o
      rw [y1] at u1
      obtain ⟨lf3, b0, b1, b2, b3, h'⟩ := m_lia14 (show P ≤ 5 by omega) h' x0 x1
      have key2 : ∃ m' : Nat, (d', (some (0, r') : Option cv)) = (cup d 253 2 0, some (0, (m' : Int))) ∧ wset c (lip c P) N m' := by
        refine zloop (fun k lf g => g = d ∧ k ≤ N ∧ lf 0 = (4, 253) ∧ lf 1 = (0, (P : Int)) ∧ lf 3 = (0, (k : Int)) ∧ ∃ m : Nat, lf 2 = (0, (m : Int)) ∧ wset c (lip c P) k m) _ ?_ n' 0 lf3 d ⟨rfl, by omega, b0, b1, b3, 0, b2, wset0⟩ h'
        intro n k lf g ⟨e, hk, b0, b1, b3, m, b2, b4⟩ hzk
        subst e
        have h := hzk
        by_cases hlt : k < N
        · obtain ⟨v1, v2, v3, v4, v5⟩ := hV k hlt
          obtain ⟨-, l0, l1, l2, l3⟩ := (hG.2.2.2.1 k hlt).v h5 h6
          rcases m_lia_s (show P ≤ 5 by omega) v2 v3 v4 v5 (by omega) hN d2 (hR k hlt) ((hS _ l1).2 _ l3) hlt h b0 b1 b2 b3 with ⟨z, lf2, y0, y1, y2, y3, h⟩ | ⟨z, lf2, y0, y1, y2, y3, h⟩
          · have hf : lip c P k = false := bf (fun q => by
              have q := lip_i.mp q
              rcases z with z | ⟨-, -, z⟩ | ⟨-, z⟩
              · exact z q.1
              · omega
              · exact q.2.2 z)
            rw [bor0 m b4.1] at y2
            exact Or.inr ⟨lf2, _, ⟨rfl, hlt, y0, y1, by rw [y3]; exact congrArg _ (Int.add_comm _ _), m, y2, wset_n b4 hf⟩, h⟩
          · have hf : lip c P k = true := lip_i.mpr ⟨z.1, by omega, z.2.1⟩
            rw [(bor6 m b4.1 _ (by omega)).1] at y2
            exact Or.inr ⟨lf2, _, ⟨rfl, hlt, y0, y1, by rw [y3]; exact congrArg _ (Int.add_comm _ _), _, y2, wset_s b4 hf v2⟩, h⟩
        · have ek : k = N := by omega
          subst ek
          exact Or.inl ⟨m, m_lia_e (show P ≤ 5 by omega) hN hN d2 (Nat.le_refl _) h b0 b1 b2 b3, b4⟩
      obtain ⟨m', w1, w2⟩ := key2
      obtain ⟨w1, w3⟩ := oI w1
      exact ⟨by rw [u2, y3, w3, wset_un y2 w2], opr_st hC hG u1 w1⟩
end Ans2
