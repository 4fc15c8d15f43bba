/-! small answers: WHY, FEE, GAINSAID, backed, DOUBT, knows, known, oath -/
section Ans
variable {sv : Nat → Int32} {L : Nat} {n n' : Nat} {lf lf' : dlf} {c d c' d' : cg} {np nq N P Q T : Nat} {a b e f r r' : Int} {o : cg × Option cv}
/-- the PERSON is asked: what is behind that -/
theorem asked_ok (hC : CT c d np nq N) (hG : GD c np nq N) {g1 : cg} {r1 : Int} (h : zr sv L n 89 0 lf [] c (g1, some (0, r1))) (h0 : lf 0 = (4, 0)) (h1 : lf 1 = (0, a)) (h2 : lf 2 = (0, b)) (h3 : lf 3 = (0, e)) (h4 : lf 4 = (0, f)) : (¬ (0 ≤ a ∧ a < (nq : Int) ∧ 0 ≤ b ∧ b < (nq : Int) ∧ 0 ≤ e ∧ e < (np : Int) ∧ 0 ≤ f ∧ f < 8) ∧ g1 = c ∧ r1 = 0) ∨ ∃ W P Q T : Nat, (a = (W : Int) ∧ b = (P : Int) ∧ e = (Q : Int) ∧ f = (T : Int)) ∧ (W < nq ∧ P < nq ∧ Q < np ∧ T < 8) ∧ ASD c g1 N W P ∧ r1 = 1 := by
  obtain ⟨⟨h5, h6, hN⟩, ⟨c0, c3, c9⟩, -⟩ := id hC
  rcases t_isAsked h h0 h1 h2 h3 h4 with ⟨z, o1⟩ | ⟨z, g2, k2, o1⟩
  · obtain ⟨x1, x2⟩ := oI o1
    exact Or.inl ⟨by omega, x1, x2⟩
  · obtain ⟨x1, x2⟩ := oI o1
    obtain ⟨W, rfl⟩ : ∃ W : Nat, a = (W : Int) := ⟨a.toNat, by omega⟩
    obtain ⟨P, rfl⟩ : ∃ P : Nat, b = (P : Int) := ⟨b.toNat, by omega⟩
    obtain ⟨Q, rfl⟩ : ∃ Q : Nat, e = (Q : Int) := ⟨e.toNat, by omega⟩
    obtain ⟨T, rfl⟩ : ∃ T : Nat, f = (T : Int) := ⟨f.toNat, by omega⟩
    obtain ⟨ca, o2, hA⟩ := ask_ok (nq := nq) (by omega) (by omega) hN c9 (hG.hv h5 h6) (by omega) hG.fr6 k2 rfl rfl rfl
    rw [oV o2] at x1
    rw [x1]
    exact Or.inr ⟨W, P, Q, T, ⟨rfl, rfl, rfl, rfl⟩, ⟨by omega, by omega, by omega, by omega⟩, hA, x2⟩
theorem asd_op {ca : cg} {W P : Nat} {x y : Int} (hC : CT c d np nq N) (hG : GD c np nq N) (hA : ASD c ca N W P) (h1 : c' = cup ca 0 0 x) (h2 : d' = cup d 253 2 y) : OPR c' d' np nq c d := by
  obtain ⟨⟨h5, h6, hN⟩, -⟩ := id hC
  have FA : ∀ k j : Nat, ¬ (92 ≤ k ∧ k ≤ 94) → ca k j = c k j := fun k j hk => hA.1.1 k j (by omega) (by omega) (by omega)
  have sc : SCL c ca np nq N := SCL.of h5 h6 hN (fun k j k1 k2 => FA k j (by omega))
  rw [h1, h2]
  exact OPR.st ⟨N, hC.mv sc (fun j _ => rfl), hG.mv h5 h6 sc, ⟨fun k j i1 i2 i3 => FA k j (by omega), fun i hi => FA _ _ (by omega)⟩, fun k j _ _ => rfl, fun j _ => rfl⟩ _ _
theorem why_op (hC : CT c d np nq N) (hG : GD c np nq N) (h : zr sv L n 293 0 lf [] c (c', some (0, r))) (h0 : lf 0 = (4, 0)) (h1 : lf 1 = (0, a)) (h2 : lf 2 = (0, b)) (h3 : lf 3 = (0, e)) (h4 : lf 4 = (0, f)) (h' : zr sv L n' 294 0 lf' [] d (d', some (0, r'))) (h0' : lf' 0 = (4, 253)) (h1' : lf' 1 = (0, a)) (h2' : lf' 2 = (0, b)) (h3' : lf' 3 = (0, e)) (h4' : lf' 4 = (0, f)) : r = r' ∧ OPR c' d' np nq c d := by
  obtain ⟨⟨h5, h6, hN⟩, ⟨c0, c3, c9⟩, ⟨d0, d1, d2⟩, ⟨t3, t4, t5, t6⟩, -, hS, -⟩ := id hC
  have hV := hG.hv h5 h6
  obtain ⟨g1, r1, k1, h⟩ := t_a_why h h0 h1 h2 h3 h4
  rcases asked_ok hC hG k1 rfl rfl rfl rfl rfl with ⟨z, x1, x2⟩ | ⟨W, P, Q, T, ⟨rfl, rfl, rfl, rfl⟩, ⟨hW, hP, hQ, hT⟩, hA, x2⟩
  · rw [x1, x2] at h
    rcases h with ⟨-, o⟩ | ⟨q, -⟩
    · rcases m_a_why h' h0' h1' h2' h3' h4' with ⟨z', o'⟩ | ⟨z', -⟩
      · obtain ⟨u1, u2⟩ := oI o
        obtain ⟨v1, v2⟩ := oI o'
        exact ⟨by omega, opr_st hC hG u1 v1⟩
      · exfalso; omega
    · exact absurd rfl q
  · rw [x2] at h
    rcases h with ⟨q, -⟩ | ⟨-, g2, r2, k2, o⟩
    · exact absurd q (by decide)
    · rcases m_a_why h' h0' h1' h2' h3' h4' with ⟨z', -⟩ | ⟨z', g3, r3, k3, o'⟩
      · exfalso; omega
      · obtain ⟨y1, y2⟩ := oI (hind_ok hA hV (hG.2.2.1 W hW).wok (by omega) (by omega) (by omega) (by omega) hN c9 k2 rfl rfl rfl)
        obtain ⟨v1, v2⟩ := oI (m_why_ok (nq := nq) (by omega) (by omega) (by omega) (by omega) hN d2 hV (hC.hr hG) hG.2.2.2.2 hS hW hP (fun k hk => ((hG.2.2.2.1 k hk).v h5 h6).2.2.1) ⟨t3, t4⟩ k3 rfl rfl rfl rfl rfl)
        obtain ⟨u1, u2⟩ := oI o
        obtain ⟨w1, w2⟩ := oI o'
        rw [y1] at u1
        rw [v1] at w1
        exact ⟨by rw [u2, w2, y2, v2], asd_op hC hG hA u1 w1⟩
theorem fee_op (hC : CT c d np nq N) (hG : GD c np nq N) (h : zr sv L n 295 0 lf [] c (c', some (0, r))) (h0 : lf 0 = (4, 0)) (h1 : lf 1 = (0, a)) (h2 : lf 2 = (0, b)) (h3 : lf 3 = (0, e)) (h4 : lf 4 = (0, f)) (h' : zr sv L n' 296 0 lf' [] d (d', some (0, r'))) (h0' : lf' 0 = (4, 253)) (h1' : lf' 1 = (0, a)) (h2' : lf' 2 = (0, b)) (h3' : lf' 3 = (0, e)) (h4' : lf' 4 = (0, f)) : r = r' ∧ OPR c' d' np nq c d := by
  obtain ⟨⟨h5, h6, hN⟩, ⟨c0, c3, c9⟩, ⟨d0, d1, d2⟩, ⟨t3, t4, t5, t6⟩, -, hS, -⟩ := id hC
  have hV := hG.hv h5 h6
  obtain ⟨g1, r1, k1, h⟩ := t_a_fee h h0 h1 h2 h3 h4
  rcases asked_ok hC hG k1 rfl rfl rfl rfl rfl with ⟨z, x1, x2⟩ | ⟨W, P, Q, T, ⟨rfl, rfl, rfl, rfl⟩, ⟨hW, hP, hQ, hT⟩, hA, x2⟩
  · rw [x1, x2] at h
    rcases h with ⟨-, o⟩ | ⟨q, -⟩
    · rcases m_a_fee h' h0' h1' h2' h3' h4' with ⟨z', o'⟩ | ⟨z', -⟩
      · obtain ⟨u1, u2⟩ := oI o
        obtain ⟨v1, v2⟩ := oI o'
        exact ⟨by omega, opr_st hC hG u1 v1⟩
      · exfalso; omega
    · exact absurd rfl q
  · rw [x2] at h
    rcases h with ⟨q, -⟩ | ⟨-, g2, r2, k2, o⟩
    · exact absurd q (by decide)
    · rcases m_a_fee h' h0' h1' h2' h3' h4' with ⟨z', -⟩ | ⟨z', g3, r3, k3, o'⟩
      · exfalso; omega
      · obtain ⟨y1, y2⟩ := oI (price_ok hA hV (hG.2.2.1 W hW).wok (by omega) (by omega) (by omega) (by omega) hN k2 rfl rfl rfl)
        obtain ⟨v1, v2⟩ := oI (m_fee_ok (nq := nq) (by omega) (by omega) (by omega) (by omega) hN d2 hV (hC.hr hG) hG.2.2.2.2 hS hW hP ⟨t3, t4⟩ k3 rfl rfl rfl rfl rfl)
        obtain ⟨u1, u2⟩ := oI o
        obtain ⟨w1, w2⟩ := oI o'
        rw [y1] at u1
        rw [v1] at w1
        exact ⟨by rw [u2, w2, y2, v2], asd_op hC hG hA u1 w1⟩
theorem gns_op (hC : CT c d np nq N) (hG : GD c np nq N) (h : zr sv L n 297 0 lf [] c (c', some (0, r))) (h0 : lf 0 = (4, 0)) (h1 : lf 1 = (0, a)) (h2 : lf 2 = (0, b)) (h3 : lf 3 = (0, e)) (h4 : lf 4 = (0, f)) (h' : zr sv L n' 298 0 lf' [] d (d', some (0, r'))) (h0' : lf' 0 = (4, 253)) (h1' : lf' 1 = (0, a)) (h2' : lf' 2 = (0, b)) (h3' : lf' 3 = (0, e)) (h4' : lf' 4 = (0, f)) : r = r' ∧ OPR c' d' np nq c d := by
  obtain ⟨⟨h5, h6, hN⟩, ⟨c0, c3, c9⟩, ⟨d0, d1, d2⟩, -⟩ := id hC
  have hV := hG.hv h5 h6
  obtain ⟨g1, r1, k1, h⟩ := t_a_gns h h0 h1 h2 h3 h4
  rcases asked_ok hC hG k1 rfl rfl rfl rfl rfl with ⟨z, x1, x2⟩ | ⟨W, P, Q, T, ⟨rfl, rfl, rfl, rfl⟩, ⟨hW, hP, hQ, hT⟩, hA, x2⟩
  · rw [x1, x2] at h
    rcases h with ⟨-, o⟩ | ⟨q, -⟩
    · rcases m_a_gns h' h0' h1' h2' h3' h4' with ⟨z', o'⟩ | ⟨z', -⟩
      · obtain ⟨u1, u2⟩ := oI o
        obtain ⟨v1, v2⟩ := oI o'
        exact ⟨by omega, opr_st hC hG u1 v1⟩
      · exfalso; omega
    · exact absurd rfl q
  · rw [x2] at h
    rcases h with ⟨q, -⟩ | ⟨-, g2, r2, k2, o⟩
    · exact absurd q (by decide)
    · rcases m_a_gns h' h0' h1' h2' h3' h4' with ⟨z', -⟩ | ⟨z', g3, r3, k3, o'⟩
      · exfalso; omega
      · have lx := cnt_le (f := oth c W P T) N
        have ly := cnt_le (f := alkx c W P Q T) N
        obtain ⟨y1, y2⟩ := oI (t_agn_92 (x := cnt (oth c W P T) N) (y := cnt (alkx c W P Q T) N) (by omega) (by omega) (by omega) (by omega) (hA.1.2.2.2.1 T hT) (hA.1.2.2.2.2.1 Q (by omega) T hT) k2 rfl rfl rfl)
        obtain ⟨v1, v2⟩ := oI (m_agn_ok (by omega) (by omega) (by omega) (by omega) hN d2 hV (hC.hr hG) hG.2.2.2.2 k3 rfl rfl rfl rfl rfl)
        obtain ⟨u1, u2⟩ := oI o
        obtain ⟨w1, w2⟩ := oI o'
        rw [y1] at u1
        rw [v1] at w1
        exact ⟨by rw [u2, w2, y2, v2, oag], asd_op hC hG hA u1 w1⟩
theorem say_ok (hV : OHV c N) (hN16 : N ≤ 16) (hN : c 3 9 = (N : Int)) (hP : P ≤ 5) (hQ : Q ≤ 4) (hT : T ≤ 7) (h : zr sv L n 98 0 lf [] c o) (h0 : lf 0 = (4, 3)) (h1 : lf 1 = (0, (P : Int))) (h2 : lf 2 = (0, (Q : Int))) (h3 : lf 3 = (0, (T : Int))) : o = (c, some (0, (cnt (bkd c P Q T (-1)) N : Int))) := by
  obtain ⟨lf1, a0, a1, a2, a3, a4, a5, h⟩ := t_say0 hP hQ hT h h0 h1 h2 h3
  refine zloop (fun k lf g => g = c ∧ k ≤ N ∧ lf 0 = (4, 3) ∧ lf 1 = (0, (P : Int)) ∧ lf 2 = (0, (Q : Int)) ∧ lf 3 = (0, (T : Int)) ∧ lf 4 = (0, (cnt (bkd c P Q T (-1)) k : Int)) ∧ lf 5 = (0, (k : Int))) _ ?_ n 0 lf1 c ⟨rfl, by omega, a0, a1, a2, a3, a4, a5⟩ h
  intro n k lf g ⟨e, hk, b0, b1, b2, b3, b4, b5⟩ hzk
  subst e
  have h := hzk
  have cl := cnt_le (f := bkd g P Q T (-1)) k
  by_cases hlt : k < N
  · obtain ⟨v1, v2, v3, v4, v5⟩ := hV k hlt
    rcases t_say_s hP hQ hT (by omega) v2 v3 v4 v5 (by omega) hN16 hN v1 hlt h b0 b1 b2 b3 b4 b5 with ⟨z, lf2, y0, y1, y2, y3, y4, y5, h⟩ | ⟨z, lf2, y0, y1, y2, y3, y4, y5, h⟩
    · have hf : bkd g P Q T (-1) k = false := bf (fun q => by
        have := bkd_i.mp q
        omega)
      exact Or.inr ⟨lf2, _, ⟨rfl, hlt, y0, y1, y2, y3, by rw [y4, cnt_n hf], by rw [y5]; exact congrArg _ (Int.add_comm _ _)⟩, h⟩
    · have hf : bkd g P Q T (-1) k = true := bkd_i.mpr (by omega)
      exact Or.inr ⟨lf2, _, ⟨rfl, hlt, y0, y1, y2, y3, by rw [y4, cnt_s hf]; exact congrArg _ (Int.add_comm _ _), by rw [y5]; exact congrArg _ (Int.add_comm _ _)⟩, h⟩
  · have ek : k = N := by omega
    subst ek
    exact Or.inl (t_say_e hP hQ hT (by omega) hN16 hN16 hN (Nat.le_refl _) h b0 b1 b2 b3 b4 b5)
theorem bkd_op (hC : CT c d np nq N) (hG : GD c np nq N) (h : zr sv L n 299 0 lf [] c (c', some (0, r))) (h0 : lf 0 = (4, 0)) (h1 : lf 1 = (0, a)) (h2 : lf 2 = (0, b)) (h3 : lf 3 = (0, e)) (h' : zr sv L n' 300 0 lf' [] d (d', some (0, r'))) (h0' : lf' 0 = (4, 253)) (h1' : lf' 1 = (0, a)) (h2' : lf' 2 = (0, b)) (h3' : lf' 3 = (0, e)) : r = r' ∧ OPR c' d' np nq c d := by
  obtain ⟨⟨h5, h6, hN⟩, ⟨c0, c3, c9⟩, ⟨d0, d1, d2⟩, -⟩ := id hC
  have hV := hG.hv h5 h6
  rcases t_a_bkd h h0 h1 h2 h3 with ⟨z, o⟩ | ⟨z, g1, r1, k1, o⟩
  · rcases m_a_bkd h' h0' h1' h2' h3' with ⟨z', o'⟩ | ⟨z', -⟩
    · obtain ⟨u1, u2⟩ := oI o
      obtain ⟨v1, v2⟩ := oI o'
      exact ⟨by omega, opr_st hC hG u1 v1⟩
    · exfalso; omega
  · rcases m_a_bkd h' h0' h1' h2' h3' with ⟨z', -⟩ | ⟨z', g2, r2, k2, o'⟩
    · exfalso; omega
    · obtain ⟨P, rfl⟩ : ∃ P : Nat, a = (P : Int) := ⟨a.toNat, by omega⟩
      obtain ⟨Q, rfl⟩ : ∃ Q : Nat, b = (Q : Int) := ⟨b.toNat, by omega⟩
      obtain ⟨T, rfl⟩ : ∃ T : Nat, e = (T : Int) := ⟨e.toNat, by omega⟩
      obtain ⟨y1, y2⟩ := oI (say_ok hV hN c9 (by omega) (by omega) (by omega) k1 rfl rfl rfl rfl)
      obtain ⟨v1, v2⟩ := oI (m_bkd_ok (by omega) (by omega) (by omega) hN d2 hV (hC.hr hG) k2 rfl rfl rfl rfl rfl)
      obtain ⟨u1, u2⟩ := oI o
      obtain ⟨w1, w2⟩ := oI o'
      rw [y1] at u1
      rw [v1] at w1
      exact ⟨by rw [u2, w2, y2, v2], opr_st hC hG u1 w1⟩
end Ans
