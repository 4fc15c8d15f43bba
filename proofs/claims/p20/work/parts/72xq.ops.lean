/-! swear, find, recant, earn, meet, ride: answers, and what is behind them -/
def FRs (c c' : cg) : Prop := (∀ k j : Nat, ¬ (k = 0 ∧ j = 0) → ¬ (k = 3 ∧ 7 ≤ j ∧ j ≤ 9) → (k < 17 ∨ 127 ≤ k) → c' k j = c k j) ∧ ∀ i : Nat, i < 6 → c' (17 + 2 * i) 0 = c (17 + 2 * i) 0
def FRm (d d' : cg) : Prop := (∀ k j : Nat, k ≠ 254 → ¬ (k = 253 ∧ j = 2) → d' k j = d k j) ∧ ∀ j : Nat, (j = 7 ∨ 260 ≤ j) → d' 254 j = d 254 j
def OPR (c' d' : cg) (np nq : Nat) (c d : cg) : Prop := ∃ N : Nat, CT c' d' np nq N ∧ GD c' np nq N ∧ FRs c c' ∧ FRm d d'
section Ops
variable {sv : Nat → Int32} {L : Nat} {n n' : Nat} {lf lf' : dlf} {c d c' d' : cg} {np nq N : Nat} {a b e f r r' : Int}
/-- but for the STATUS -/
theorem opr_st (hC : CT c d np nq N) (hG : GD c np nq N) {x y : Int} (h1 : c' = cup c 0 0 x) (h2 : d' = cup d 253 2 y) : OPR c' d' np nq c d := by
  obtain ⟨⟨h5, h6, hN⟩, -⟩ := id hC
  have s : SCL c c' np nq N := SCL.of h5 h6 hN (fun k j k1 k2 => by rw [h1, cup_ne (by omega)])
  exact ⟨N, hC.mv s (fun j _ => by rw [h2, cup_ne (by omega)]), hG.mv h5 h6 s, ⟨fun k j i1 _ _ => by rw [h1, cup_ne i1], fun i _ => by rw [h1, cup_ne (by omega)]⟩, fun k j i1 i2 => by rw [h2, cup_ne i2], fun j _ => by rw [h2, cup_ne (by omega)]⟩
theorem OPR.st (h : OPR c' d' np nq c d) (x y : Int) : OPR (cup c' 0 0 x) (cup d' 253 2 y) np nq c d := by
  obtain ⟨N, hC, hG, ⟨f1, f2⟩, g1, g2⟩ := h
  obtain ⟨⟨h5, h6, hN⟩, -⟩ := id hC
  have s : SCL c' (cup c' 0 0 x) np nq N := SCL.of h5 h6 hN (fun k j k1 k2 => by rw [cup_ne (by omega)])
  exact ⟨N, hC.mv s (fun j _ => by rw [cup_ne (by omega)]), hG.mv h5 h6 s, ⟨fun k j i1 i2 i3 => by rw [cup_ne i1]; exact f1 k j i1 i2 i3, fun i hi => by rw [cup_ne (by omega)]; exact f2 i hi⟩, fun k j i1 i2 => by rw [cup_ne i2]; exact g1 k j i1 i2, fun j hj => by rw [cup_ne (by omega)]; exact g2 j hj⟩
theorem find_op (hC : CT c d np nq N) (hG : GD c np nq N) (h : zr sv L n 305 0 lf [] c (c', some (0, r))) (h0 : lf 0 = (4, 0)) (h1 : lf 1 = (0, a)) (h2 : lf 2 = (0, b)) (h3 : lf 3 = (0, e)) (h' : zr sv L n' 306 0 lf' [] d (d', some (0, r'))) (h0' : lf' 0 = (4, 253)) (h1' : lf' 1 = (0, a)) (h2' : lf' 2 = (0, b)) (h3' : lf' 3 = (0, e)) : r = r' ∧ OPR c' d' np nq c d := by
  obtain ⟨⟨h5, h6, hN⟩, ⟨c0, c3, c9⟩, ⟨d0, d1, d2⟩, -⟩ := id hC
  rcases t_find h h0 h1 h2 h3 with ⟨z, o⟩ | ⟨z, g1, r1, k1, o⟩
  · rcases m_find h' h0' h1' h2' h3' with ⟨z', o'⟩ | ⟨z', -⟩
    · obtain ⟨u1, u2⟩ := oI o
      obtain ⟨v1, v2⟩ := oI o'
      exact ⟨by omega, opr_st hC hG u1 v1⟩
    · exfalso; omega
  · rcases m_find h' h0' h1' h2' h3' with ⟨z', o'⟩ | ⟨z', g2, r2, k2, o'⟩
    · exfalso; omega
    · obtain ⟨P, rfl⟩ : ∃ P : Nat, a = (P : Int) := ⟨a.toNat, by omega⟩
      obtain ⟨Q, rfl⟩ : ∃ Q : Nat, b = (Q : Int) := ⟨b.toNat, by omega⟩
      obtain ⟨T, rfl⟩ : ∃ T : Nat, e = (T : Int) := ⟨e.toNat, by omega⟩
      obtain ⟨e1, -, e2, e3, e4, e5⟩ := find_pr (by omega) (by omega) (by omega) hC hG k1 rfl rfl rfl rfl k2 rfl rfl rfl rfl
      obtain ⟨u1, u2⟩ := oI o
      obtain ⟨v1, v2⟩ := oI o'
      refine ⟨by omega, ?_⟩
      rw [u1, v1]
      exact OPR.st ⟨N, e2, e3, ⟨fun k j _ i2 i3 => e4.1 k j (by omega) (by omega), e4.2⟩, fun k j i1 _ => e5.1 k j i1, e5.2⟩ _ _
theorem fees_rng {P Q T W : Nat} (hG : GD c np nq N) (hN : N ≤ 16) : 0 ≤ fees c N W P Q T ∧ fees c N W P Q T ≤ 2000 := by
  obtain ⟨⟨s1, s2, -⟩, -⟩ := hG
  have cl := cnt_le (f := gns c W P Q T) N
  have m1 : 0 ≤ c 3 6 * (cnt (gns c W P Q T) N : Int) := Int.mul_nonneg s2.1 (by omega)
  have m2 : c 3 6 * (cnt (gns c W P Q T) N : Int) ≤ 99 * 16 := Int.mul_le_mul s2.2 (by omega) (by omega) (by decide)
  have hr : rate c N W P Q T = c 3 5 + c 3 6 * (cnt (gns c W P Q T) N : Int) := by
    unfold rate
    rw [w32_id (z := c 3 6 * (cnt (gns c W P Q T) N : Int)) (by omega) (by omega), w32_id (by omega) (by omega)]
  unfold fees
  split
  · omega
  · split
    · have q : ∀ k : Nat, k < 2000 → 0 ≤ qdi (k : Int) 2 ∧ qdi (k : Int) 2 ≤ 1000 := by decide +kernel
      have := q (rate c N W P Q T + 1).toNat (by omega)
      rw [show (((rate c N W P Q T + 1).toNat : Nat) : Int) = rate c N W P Q T + 1 by omega] at this
      rw [w32_id (by omega) (by omega)]
      omega
    · omega
theorem whys_n {P Q T W : Nat} : 0 ≤ whys c N W P Q T := by
  unfold whys
  split
  · decide
  · split
    · decide
    · split
      · decide
      · split
        · decide
        · split <;> decide
theorem whys_0 {P Q T W : Nat} (h : whys c N W P Q T = 0) : N ≠ 16 ∧ (∀ k : Nat, k < N → spk c W P T k = false) ∧ fees c N W P Q T ≤ c (17 + 2 * W) 1 := by
  unfold whys at h
  split at h
  · exact absurd h (by decide)
  · rename_i h1
    split at h
    · exact absurd h (by decide)
    · rename_i h2
      split at h
      · exact absurd h (by decide)
      · split at h
        · exact absurd h (by decide)
        · split at h
          · exact absurd h (by decide)
          · rename_i h5
            exact ⟨h1, fun k hk => bf (fun q => h2 ((cnt_pos N).mpr ⟨k, hk, q⟩)), by omega⟩
theorem swear_op (hC : CT c d np nq N) (hG : GD c np nq N) (h : zr sv L n 303 0 lf [] c (c', some (0, r))) (h0 : lf 0 = (4, 0)) (h1 : lf 1 = (0, a)) (h2 : lf 2 = (0, b)) (h3 : lf 3 = (0, e)) (h4 : lf 4 = (0, f)) (h' : zr sv L n' 304 0 lf' [] d (d', some (0, r'))) (h0' : lf' 0 = (4, 253)) (h1' : lf' 1 = (0, a)) (h2' : lf' 2 = (0, b)) (h3' : lf' 3 = (0, e)) (h4' : lf' 4 = (0, f)) : r = r' ∧ OPR c' d' np nq c d := by
  obtain ⟨⟨h5, h6, hN⟩, ⟨c0, c3, c9⟩, ⟨d0, d1, d2⟩, ⟨t3, t4, t5, t6⟩, -, hS, -⟩ := id hC
  have hV := hG.hv h5 h6
  have hR := hC.hr hG
  obtain ⟨g1, r1, k1, h⟩ := t_swear h h0 h1 h2 h3 h4
  rcases t_isAsked k1 rfl rfl rfl rfl rfl with ⟨z, o1⟩ | ⟨z, g2, k2, o1⟩
  · obtain ⟨x1, x2⟩ := oI o1
    rw [x1, x2] at h
    rcases h with ⟨q, -⟩ | ⟨-, o⟩
    · exact absurd rfl q
    · rcases m_swear h' h0' h1' h2' h3' h4' with ⟨z', o'⟩ | ⟨z', -⟩
      · obtain ⟨u1, u2⟩ := oI o
        obtain ⟨v1, v2⟩ := oI o'
        exact ⟨by omega, opr_st hC hG u1 v1⟩
      · exfalso; omega
  · obtain ⟨x1, x2⟩ := oI o1
    rw [x1, x2] at h
    obtain ⟨W, rfl⟩ : ∃ W : Nat, a = (W : Int) := ⟨a.toNat, by omega⟩
    obtain ⟨P, rfl⟩ : ∃ P : Nat, b = (P : Int) := ⟨b.toNat, by omega⟩
    obtain ⟨Q, rfl⟩ : ∃ Q : Nat, e = (Q : Int) := ⟨e.toNat, by omega⟩
    obtain ⟨T, rfl⟩ : ∃ T : Nat, f = (T : Int) := ⟨f.toNat, by omega⟩
    have hW : W < nq := by omega
    have hP : P < nq := by omega
    have hQ : Q < np := by omega
    have hT : T < 8 := by omega
    obtain ⟨ca, o2, hA⟩ := ask_ok (nq := nq) (by omega) (by omega) hN c9 hV hW hG.fr6 k2 rfl rfl rfl
    have x3 := oV o2
    rw [x3] at h
    have hw := (hG.2.2.1 W hW).wok
    have FA : ∀ k j : Nat, ¬ (92 ≤ k ∧ k ≤ 94) → ca k j = c k j := fun k j hk => hA.1.1 k j (by omega) (by omega) (by omega)
    rcases m_swear h' h0' h1' h2' h3' h4' with ⟨z', o'⟩ | ⟨z', g3, r3, k3, h'⟩
    · exfalso; omega
    · obtain ⟨v1, v2⟩ := oI (m_why_ok (nq := nq) (by omega) (by omega) (by omega) (by omega) hN d2 hV hR hG.2.2.2.2 hS hW hP (fun k hk => ((hG.2.2.2.1 k hk).v h5 h6).2.2.1) ⟨t3, t4⟩ k3 rfl rfl rfl rfl rfl)
      rw [v1, v2] at h'
      have w0 := whys_n (c := c) (N := N) (P := P) (Q := Q) (T := T) (W := W)
      rcases h with ⟨-, g4, r4, k4, h⟩ | ⟨q, -⟩
      · obtain ⟨y1, y2⟩ := oI (hind_ok hA hV hw (by omega) (by omega) (by omega) (by omega) hN c9 k4 rfl rfl rfl)
        rw [y1, y2] at h
        rcases h with ⟨q, g5, r5, k5, g6, r6, k6, o⟩ | ⟨q, o⟩
        · rcases h' with ⟨q', g7, k7, o'⟩ | ⟨q', -⟩
          · obtain ⟨n16, nsp, nfe⟩ := whys_0 q
            obtain ⟨s1, s2⟩ := oI (price_ok hA hV hw (by omega) (by omega) (by omega) (by omega) hN k5 rfl rfl rfl)
            rw [s1, s2] at k6
            have sc : SCL c ca np nq N := SCL.of h5 h6 hN (fun k j k1 k2 => FA k j (by omega))
            have hGa := hG.mv h5 h6 sc
            have hCa := hC.mv sc (d' := d) (fun j _ => rfl)
            obtain ⟨cb, o6, hE⟩ := enter_ok hGa h5 h6 (by omega) (by rw [FA 3 9 (by omega)]; exact c9) hW hP hQ hT k6 rfl rfl rfl rfl rfl rfl
            obtain ⟨s3, s4⟩ := oI o6
            obtain ⟨db, o7, hM⟩ := swears_ok hC hG (by omega) hW hP hQ hT k7 rfl rfl rfl rfl rfl
            have s5 := oV o7
            -- the class's picture, by the court ahead of the asking
            have ob : ∀ k : Nat, k < N → ohw ca k = ohw c k ∧ ohp ca k = ohp c k ∧ ohq ca k = ohq c k ∧ oht ca k = oht c k ∧ ohs ca k = ohs c k := fun k hk => sc.o hk
            have eg : ∀ i : Nat, i < N → voy ca N W P Q T i = voy c N W P Q T i := fun i hi => by
              obtain ⟨o0, o1, o2, o3, o5⟩ := ob i hi
              unfold voy gsx msx gns isof trh
              rw [o0, o1, o2, o3, o5, FA _ _ (by omega), FA _ _ (by omega), FA _ _ (by have := (hV i hi).2.2.1; omega), FA _ _ (by omega), FA _ _ (by omega), FA _ _ (by omega)]
            have em : von ca N P Q T = von c N P Q T := by
              unfold von
              rw [cnt_congr N (fun i hi => show msx ca P Q T i = msx c P Q T i by
                obtain ⟨o0, o1, o2, o3, o5⟩ := ob i hi
                unfold msx trh
                rw [o1, o2, o3, o5, FA _ _ (by omega), FA _ _ (by have := (hV i hi).2.2.1; omega), FA _ _ (by omega), FA _ _ (by omega), FA _ _ (by omega)])]
            have hE' : EC ca cb N W P Q T (fees c N W P Q T) (voy c N W P Q T) (von c N P Q T) := by
              obtain ⟨i1, i2, i3, i4, i5, i6, i7, i8, i9, ia, ib⟩ := hE
              refine ⟨i1, i2, i3, fun i hi => ⟨(i4 i hi).1, by rw [(i4 i hi).2, eg i hi]⟩, i5, i6, i7, i8, i9, ?_, ib⟩
              rw [← em]
              exact ia
            have q1 := ce hCa (by omega) hW hE' hM
            have fr := fees_rng (P := P) (Q := Q) (T := T) (W := W) hG hN
            have q2 := gde h5 h6 hGa (by omega) hW hP hQ hT ⟨fr.1, fr.2, by rw [FA _ _ (by omega)]; exact nfe⟩ (fun k hk => by
              obtain ⟨o0, o1, o2, o3, o5⟩ := ob k hk
              have := nsp k hk
              unfold spk isof at *
              rw [o0, o1, o3, o5]
              exact this) hE'
            obtain ⟨u1, u2⟩ := oI o
            obtain ⟨v3, v4⟩ := oI o'
            rw [s3, s4] at *
            refine ⟨?_, ?_⟩
            · rw [u2, v4, s5, hM.2.2.1.2.2, w32_id (by omega) (by omega)]
              omega
            · rw [u1, v3, s5]
              refine OPR.st ⟨N + 1, q1, q2, ⟨fun k j i1 i2 i3 => ?_, fun i hi => ?_⟩, fun k j i1 i2 => hM.1 k j i1, fun j hj => hM.2.1 j (by omega) (by omega) (by omega) (by omega) (fun i hi => by omega)⟩ _ _
              · rw [hE'.1 k j (by omega) (by omega)]
                exact FA k j (by omega)
              · rw [(hE'.2.1 i hi).1 0 (by omega)]
                exact FA _ _ (by omega)
          · exfalso; omega
        · rcases h' with ⟨q', -⟩ | ⟨q', o'⟩
          · exfalso; omega
          · obtain ⟨u1, u2⟩ := oI o
            obtain ⟨v3, v4⟩ := oI o'
            refine ⟨by omega, ?_⟩
            rw [u1, v3]
            have sc : SCL c ca np nq N := SCL.of h5 h6 hN (fun k j k1 k2 => FA k j (by omega))
            exact OPR.st ⟨N, hC.mv sc (fun j _ => rfl), hG.mv h5 h6 sc, ⟨fun k j i1 i2 i3 => FA k j (by omega), fun i hi => FA _ _ (by omega)⟩, fun k j _ _ => rfl, fun j _ => rfl⟩ _ _
      · exact absurd q (by decide)
theorem inst_ok {s : Int} (hV : OHV c N) (hN16 : N ≤ 16) (hN : c 3 9 = (N : Int)) {o : cg × Option cv} (h : zr sv L n 76 0 lf [] c o) (h0 : lf 0 = (4, 3)) (h1 : lf 1 = (0, s)) : o = (c, some (0, (cnt (fun k => decide (ohs c k = s)) N : Int))) := by
  obtain ⟨lf1, a0, a1, a2, a3, h⟩ := t_inst0 h h0 h1
  refine zloop (fun k lf g => g = c ∧ k ≤ N ∧ lf 0 = (4, 3) ∧ lf 1 = (0, s) ∧ lf 2 = (0, (cnt (fun k => decide (ohs c k = s)) k : Int)) ∧ lf 3 = (0, (k : Int))) _ ?_ n 0 lf1 c ⟨rfl, by omega, a0, a1, a2, a3⟩ h
  intro n k lf g ⟨e, hk, b0, b1, b2, b3⟩ hzk
  subst e
  have h := hzk
  have cl := cnt_le (f := fun k => decide (ohs g k = s)) k
  by_cases hlt : k < N
  · obtain ⟨v1, v2, v3, v4, v5⟩ := hV k hlt
    rcases t_inst_s v2 v3 v4 v5 (by omega) hN16 (by omega) hN v1 hlt h b0 b1 b2 b3 with ⟨z, lf2, y0, y1, y2, y3, h⟩ | ⟨z, lf2, y0, y1, y2, y3, h⟩
    all_goals first
      | exact Or.inr ⟨lf2, _, ⟨rfl, hlt, y0, y1, by rw [y2, cnt_n (f := fun k => decide (ohs g k = s)) (decide_eq_false z)], by rw [y3]; exact congrArg _ (Int.add_comm _ _)⟩, h⟩
      | exact Or.inr ⟨lf2, _, ⟨rfl, hlt, y0, y1, by rw [y2, cnt_s (f := fun k => decide (ohs g k = s)) (decide_eq_true z)]; exact congrArg _ (Int.add_comm _ _), by rw [y3]; exact congrArg _ (Int.add_comm _ _)⟩, h⟩
  · have ek : k = N := by omega
    subst ek
    exact Or.inl (t_inst_e hN16 hN16 (by omega) hN (Nat.le_refl _) h b0 b1 b2 b3)
theorem stdg_ok (hV : OHV c N) (hR : OHR c d N) (hN16 : N ≤ 16) (hN : d 254 2 = (N : Int)) {o : cg × Option cv} (h : zr sv L n 235 0 lf [] d o) (h0 : lf 0 = (4, 253)) : o = (d, some (0, (cnt (fun k => decide (ohs c k = 0)) N : Int))) := by
  obtain ⟨lf1, a0, a1, a2, h⟩ := m_std0 h h0
  refine zloop (fun k lf g => g = d ∧ k ≤ N ∧ lf 0 = (4, 253) ∧ lf 1 = (0, (cnt (fun k => decide (ohs c k = 0)) k : Int)) ∧ lf 2 = (0, (k : Int))) _ ?_ n 0 lf1 d ⟨rfl, by omega, a0, a1, a2⟩ h
  intro n k lf g ⟨e, hk, b0, b1, b2⟩ hzk
  subst e
  have h := hzk
  have cl := cnt_le (f := fun k => decide (ohs c k = 0)) k
  by_cases hlt : k < N
  · obtain ⟨v1, v2, v3, v4, v5⟩ := hV k hlt
    rcases m_std_s (by omega) v2 v3 v4 v5 (by omega) hN16 hN (hR k hlt) hlt h b0 b1 b2 with ⟨z, lf2, y0, y1, y2, h⟩ | ⟨z, lf2, y0, y1, y2, h⟩
    · exact Or.inr ⟨lf2, _, ⟨rfl, hlt, y0, by rw [y1, cnt_n (f := fun k => decide (ohs c k = 0)) (decide_eq_false z)], by rw [y2]; exact congrArg _ (Int.add_comm _ _)⟩, h⟩
    · exact Or.inr ⟨lf2, _, ⟨rfl, hlt, y0, by rw [y1, cnt_s (f := fun k => decide (ohs c k = 0)) (decide_eq_true z)]; exact congrArg _ (Int.add_comm _ _), by rw [y2]; exact congrArg _ (Int.add_comm _ _)⟩, h⟩
  · have ek : k = N := by omega
    subst ek
    exact Or.inl (m_std_e (by omega) hN16 hN16 hN (Nat.le_refl _) h b0 b1 b2)
end Ops
