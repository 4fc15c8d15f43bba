/-! live, on both sides -/
def FRv (c c' : cg) : Prop := (∀ k j : Nat, ¬ (k = 0 ∧ (j = 0 ∨ j = 17)) → ¬ (k = 3 ∧ 8 ≤ j ∧ j ≤ 9) → (k < 17 ∨ 127 ≤ k) → c' k j = c k j) ∧ ∀ i : Nat, i < 6 → c' (17 + 2 * i) 0 = c (17 + 2 * i) 0
def FRw (d d' : cg) : Prop := (∀ k j : Nat, k ≠ 254 → ¬ (267 ≤ k ∧ k ≤ 269) → ¬ (k = 253 ∧ (j = 2 ∨ 33 ≤ j)) → d' k j = d k j) ∧ (∀ j : Nat, (j = 7 ∨ 260 ≤ j) → d' 254 j = d 254 j) ∧ d' 253 39 = d 253 39
section Lvo
variable {sv : Nat → Int32} {L : Nat} {n n' : Nat} {lf lf' : dlf} {c d c' d' : cg} {np nq N : Nat} {a r r' : Int}
/-- five zeros -/
theorem lvz_l {o : cg × Option cv} (h : zr sv L n 248 12 lf [] d o) (h0 : lf 0 = (4, 253)) (h2 : lf 2 = (0, 0)) : ∃ (n2 : Nat) (lf2 : dlf) (g : cg), lf2 0 = (4, 253) ∧ lf2 2 = (0, g 254 2) ∧ lf2 3 = (0, 0) ∧ (∀ i j : Nat, i ≠ 268 → g i j = d i j) ∧ (∀ j : Nat, j < 5 → g 268 j = 0) ∧ zr sv L n2 248 39 lf2 [] g o := by
  refine zloop (fun k lf g => k ≤ 5 ∧ lf 0 = (4, 253) ∧ lf 2 = (0, (k : Int)) ∧ (∀ i j : Nat, i ≠ 268 → g i j = d i j) ∧ ∀ j : Nat, j < k → g 268 j = 0) _ ?_ n 0 lf d ⟨by omega, h0, h2, fun _ _ _ => rfl, fun j hj => absurd hj (Nat.not_lt_zero j)⟩ h
  intro n k lf g ⟨hk, b0, b2, b3, b4⟩ h
  by_cases hlt : k < 5
  · obtain ⟨lf2, y0, y2, h⟩ := m_lvs12s (by omega) h b0 b2
    exact Or.inr ⟨lf2, _, ⟨by omega, y0, by rw [y2]; exact congrArg _ (Int.add_comm _ _), fun i j hi => by rw [cup_ne (by omega)]; exact b3 i j hi, fun j hj => by
      by_cases e : j = k
      · rw [e, cup_at]
      · rw [cup_ne (by omega)]; exact b4 j (by omega)⟩, h⟩
  · have ek : k = 5 := by omega
    subst ek
    obtain ⟨lf2, y0, y2, y3, h⟩ := m_lvs12e h b0 b2
    exact Or.inl ⟨n, lf2, g, y0, y2, y3, b3, b4, h⟩
/-- how many are VOID -/
theorem lvv_l {b : Nat} {o : cg × Option cv} (hN : d 254 2 = (N : Int)) (hN16 : N ≤ 16) (hb : b ≤ 16) (h : zr sv L n 248 213 lf [] d o) (h0 : lf 0 = (4, 253)) (h2 : lf 2 = (0, (b : Int))) : ∃ g : cg, o = (g, none) ∧ ∀ i j : Nat, i ≠ 268 → g i j = d i j := by
  obtain ⟨lf1, y0, y4, h⟩ := m_lvs213 hb h h0 h2
  refine zloop (fun k lf g => b + k ≤ 16 ∧ lf 0 = (4, 253) ∧ lf 4 = (0, ((b + k : Nat) : Int)) ∧ ∀ i j : Nat, i ≠ 268 → g i j = d i j) _ ?_ n 0 lf1 d ⟨by omega, y0, y4, fun _ _ _ => rfl⟩ h
  intro n k lf g ⟨hk, b0, b4, b3⟩ h
  have gN : g 254 2 = (N : Int) := by rw [b3 _ _ (by omega)]; exact hN
  by_cases hlt : b + k < N
  · rcases m_lvs216s (by omega) hN16 gN rfl hlt h b0 b4 with ⟨-, lf2, y0, y4, h⟩ | ⟨-, lf2, y0, y4, h⟩
    · exact Or.inr ⟨lf2, _, ⟨by omega, y0, by rw [y4]; exact congrArg _ (by omega), fun i j hi => by rw [cup_ne (by omega)]; exact b3 i j hi⟩, h⟩
    · exact Or.inr ⟨lf2, _, ⟨by omega, y0, by rw [y4]; exact congrArg _ (by omega), fun i j hi => by rw [cup_ne (by omega)]; exact b3 i j hi⟩, h⟩
  · exact Or.inl ⟨g, m_lvs216e (by omega) hN16 gN (by omega) h b0 b4, b3⟩
/-- what is told of it -/
theorem lvt_l {o : cg × Option cv} (h : zr sv L n 362 43 lf [] d o) (h0 : lf 0 = (4, 253)) (h2 : lf 2 = (0, 0)) : ∃ g : cg, o = (cup (cup g 253 38 1) 253 2 0, some (0, d 253 34)) ∧ ∀ i j : Nat, i ≠ 269 → g i j = d i j := by
  refine zloop (fun k lf g => k ≤ 5 ∧ lf 0 = (4, 253) ∧ lf 2 = (0, (k : Int)) ∧ ∀ i j : Nat, i ≠ 269 → g i j = d i j) _ ?_ n 0 lf d ⟨by omega, h0, h2, fun _ _ _ => rfl⟩ h
  intro n k lf g ⟨hk, b0, b2, b3⟩ h
  by_cases hlt : k < 5
  · obtain ⟨lf2, y0, y2, h⟩ := m_liv43s (by omega) h b0 b2
    exact Or.inr ⟨lf2, _, ⟨by omega, y0, by rw [y2]; exact congrArg _ (Int.add_comm _ _), fun i j hi => by rw [cup_ne (by omega)]; exact b3 i j hi⟩, h⟩
  · have ek : k = 5 := by omega
    subst ek
    have e := m_liv43e h b0 b2
    rw [b3 253 34 (by omega)] at e
    exact Or.inl ⟨g, e, b3⟩
theorem live_op (hC : CT c d np nq N) (hG : GD c np nq N) (hT : TRS c d np nq) (h : zr sv L n 361 0 lf [] c (c', some (0, r))) (h0 : lf 0 = (4, 0)) (h1 : lf 1 = (0, a)) (h' : zr sv L n' 362 0 lf' [] d (d', some (0, r'))) (h0' : lf' 0 = (4, 253)) (h1' : lf' 1 = (0, a)) : r = r' ∧ (∃ N : Nat, CT c' d' np nq N ∧ GD c' np nq N) ∧ FRv c c' ∧ FRw d d' := by
  obtain ⟨⟨q5, q6, qN⟩, -, ⟨-, -, d2⟩, -⟩ := id hC
  have s1 := csgnl (z := a - 0)
  have s2 := csgng (z := a - 9999)
  have st : ∀ {x y : Int}, c' = cup c 0 0 x → d' = cup d 253 2 y → (∃ N : Nat, CT c' d' np nq N ∧ GD c' np nq N) ∧ FRv c c' ∧ FRw d d' := fun {x y} e e' => by
    have sx : SCL c c' np nq N := SCL.of q5 q6 qN (fun i j i1 i2 => by rw [e, cup_ne (by omega)])
    exact ⟨⟨N, hC.mv sx (fun j _ => by rw [e', cup_ne (by omega)]), hG.mv q5 q6 sx⟩, ⟨fun i j i1 i2 i3 => by rw [e, cup_ne (by omega)], fun i _ => by rw [e, cup_ne (by omega)]⟩, fun i j i1 i2 i3 => by rw [e', cup_ne (by omega)], fun j _ => by rw [e', cup_ne (by omega)], by rw [e', cup_ne (by omega)]⟩
  rcases t_liv h h0 h1 with ⟨z, o⟩ | ⟨z, g1, k1, o⟩ | ⟨z, o⟩
  · rcases m_liv h' h0' h1' with ⟨z', o'⟩ | ⟨z', -⟩ | ⟨z', -⟩
    · obtain ⟨u1, u2⟩ := oI o
      obtain ⟨v1, v2⟩ := oI o'
      exact ⟨by omega, st u1 v1⟩
    · exfalso; omega
    · exfalso; omega
  · rcases hT with ⟨w1, w2⟩ | ⟨w1, nn, w2, w3, w4, w5, w6⟩
    · exfalso; omega
    · rcases m_liv h' h0' h1' with ⟨z', -⟩ | ⟨z', q1, k2, lf2, x0, x2, h'⟩ | ⟨z', -⟩
      · exfalso; omega
      · obtain ⟨u1, u2⟩ := oI o
        -- the class, ahead of the first row
        obtain ⟨lf1, y0, y3, y4, k1⟩ := t_go0 k1 rfl rfl rfl
        have X : ∀ i j : Nat, i ≠ 107 → ¬ (i = 0 ∧ j = 17) → cup (cup (cup (cup (cup (cup (cup (cup c 0 17 (w32 ((c 0 17) + 1))) 107 5 a) 107 6 (w32 ((c 0 17) + 1))) 107 7 0) 107 8 0) 107 9 0) 107 10 0) 107 11 0 i j = c i j := fun i j i1 i2 => by
          rw [cup_ne (by omega), cup_ne (by omega), cup_ne (by omega), cup_ne (by omega), cup_ne (by omega), cup_ne (by omega), cup_ne (by omega), cup_ne (by omega)]
        have X5 : cup (cup (cup (cup (cup (cup (cup (cup c 0 17 (w32 ((c 0 17) + 1))) 107 5 a) 107 6 (w32 ((c 0 17) + 1))) 107 7 0) 107 8 0) 107 9 0) 107 10 0) 107 11 0 107 5 = a := by
          rw [cup_ne (by omega), cup_ne (by omega), cup_ne (by omega), cup_ne (by omega), cup_ne (by omega), cup_ne (by omega), cup_at]
        have X7 : cup (cup (cup (cup (cup (cup (cup (cup c 0 17 (w32 ((c 0 17) + 1))) 107 5 a) 107 6 (w32 ((c 0 17) + 1))) 107 7 0) 107 8 0) 107 9 0) 107 10 0) 107 11 0 107 7 = 0 := by
          rw [cup_ne (by omega), cup_ne (by omega), cup_ne (by omega), cup_ne (by omega), cup_at]
        have Xb : cup (cup (cup (cup (cup (cup (cup (cup c 0 17 (w32 ((c 0 17) + 1))) 107 5 a) 107 6 (w32 ((c 0 17) + 1))) 107 7 0) 107 8 0) 107 9 0) 107 10 0) 107 11 0 107 11 = 0 := cup_at
        generalize cup (cup (cup (cup (cup (cup (cup (cup c 0 17 (w32 ((c 0 17) + 1))) 107 5 a) 107 6 (w32 ((c 0 17) + 1))) 107 7 0) 107 8 0) 107 9 0) 107 10 0) 107 11 0 = cx at k1 X X5 X7 Xb
        -- the reference
        obtain ⟨lf3, b0, b2, k2⟩ := m_lvs0 k2 rfl rfl
        obtain ⟨n3, lf4, dx, e0, e2, e3, e4, e5, k2⟩ := lvz_l k2 b0 b2
        have Y : ∀ i j : Nat, i ≠ 268 → ¬ (i = 253 ∧ 33 ≤ j) → dx i j = d i j := fun i j i1 i2 => by
          rw [e4 i j i1, cup_ne (by omega), cup_ne (by omega)]
        have Y3 : dx 253 33 = a := by rw [e4 _ _ (by omega), cup_ne (by omega), cup_at]
        have Y4 : dx 253 34 = 0 := by rw [e4 _ _ (by omega), cup_at]
        have dN : dx 254 2 = (N : Int) := by rw [Y _ _ (by omega) (by omega)]; exact d2
        have sx : SCL c cx np nq N := SCL.of q5 q6 qN (fun i j i1 i2 => X i j (by omega) (by omega))
        have hCx : CT cx dx np nq N := hC.mv sx (fun j _ => Y 254 j (by omega) (by omega))
        have hNx : NEST cx nn := w6.mvz (fun i j i1 i2 => X i j (by omega) (by omega))
        have noP : ∀ i : Nat, ¬ PAI cx nn i 0 := fun i q => absurd q.1 (Nat.not_lt_zero i)
        have hL : LRE cx dx np nq nn 0 0 := ⟨⟨by omega, by omega⟩, ⟨N, hCx, hG.mv q5 q6 sx⟩, ⟨a.toNat, by omega, by rw [X5]; omega, by rw [Y3]; omega⟩, ⟨Xb, e5 4 (by omega), X7, Y4⟩, ⟨by rw [X _ _ (by omega) (by omega)]; exact w3, by rw [Y _ _ (by omega) (by omega)]; exact w4, w2⟩, fun i hi => (w5 i hi).mvz (fun k j i1 i2 => X k j (by omega) (by omega)) (fun j _ => Y 254 j (by omega) (by omega)), hNx, fun o e _ _ i1 _ => absurd i1 (Nat.not_lt_zero o), fun o q _ => absurd q (noP o)⟩
        obtain ⟨n5, sta, lf5, dz, f0, f2, f3, ⟨N2, hC2, hG2⟩, f5, f6, f7, f8⟩ := lives_l n (Nat.le_refl n) hL (fun i1 => by
          by_cases i2 : 9 ≤ cx 9 0
          · obtain ⟨i, q⟩ := hNx.1 0 i1 i2
            exact absurd q (noP i)
          · omega) (u := 0) (by omega) y0 y3 y4 k1 (b := N) qN e0 (by rw [e2, dN]) e3 k2
        obtain ⟨⟨-, -, qN2⟩, -, ⟨-, -, i2⟩, -⟩ := id hC2
        obtain ⟨dw, j1, j2⟩ := lvv_l i2 qN2 qN f3 f0 f2
        have j1 := oV j1
        rw [j1] at h'
        obtain ⟨dv, m1, m2⟩ := lvt_l h' x0 x2
        obtain ⟨v1, v2⟩ := oI m1
        have D : ∀ i j : Nat, i ≠ 268 → i ≠ 269 → ¬ (i = 253 ∧ (j = 2 ∨ j = 38)) → d' i j = dz i j := fun i j i1 i2 i3 => by
          rw [v1, cup_ne (by omega), cup_ne (by omega), m2 i j i2, j2 i j i1]
        have sc : SCL g1 c' np nq N2 := SCL.of q5 q6 qN2 (fun i j i1 i2 => by rw [u1, cup_ne (by omega)])
        refine ⟨?_, ⟨N2, hC2.mv sc (fun j _ => D 254 j (by omega) (by omega) (by omega)), hG2.mv q5 q6 sc⟩, ⟨fun i j i1 i2 i3 => ?_, fun i hi => ?_⟩, fun i j i1 i2 i3 => ?_, fun j hj => ?_, ?_⟩
        · rw [u2, v2, f5, j2 _ _ (by omega), f6]
        · rw [u1, cup_ne (by omega)]
          rcases i3 with i3 | i3
          · rw [f7.1 i j i2 i3, X i j (by omega) (by omega)]
          · rw [f7.2.2 i j i3, X i j (by omega) (by omega)]
        · rw [u1, cup_ne (by omega), f7.2.1 i hi, X _ _ (by omega) (by omega)]
        · rw [D i j (by omega) (by omega) (by omega), f8.1 i j i1 (by omega) (by omega) (by omega), Y i j (by omega) (by omega)]
        · rw [D _ _ (by omega) (by omega) (by omega), f8.2 j hj, Y _ _ (by omega) (by omega)]
        · rw [D _ _ (by omega) (by omega) (by omega), f8.1 _ _ (by omega) (by omega) (by omega) (by omega), e4 _ _ (by omega), cup_ne (by omega), cup_ne (by omega)]
      · exfalso; omega
  · rcases hT with ⟨w1, w2⟩ | ⟨w1, nn, w2, w3, w4, w5, w6⟩
    · rcases m_liv h' h0' h1' with ⟨z', -⟩ | ⟨z', -⟩ | ⟨z', o'⟩
      · exfalso; omega
      · exfalso; omega
      · obtain ⟨u1, u2⟩ := oI o
        obtain ⟨v1, v2⟩ := oI o'
        exact ⟨by omega, st u1 v1⟩
    · exfalso; omega
end Lvo
