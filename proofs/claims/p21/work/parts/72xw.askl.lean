section
/-! the same for the one who lives (the object 110): by program (wip/tools/zask.py) -/
def ASDl (c c' : cg) (N W P : Nat) : Prop := AS 110 c W P N c' ∧ ((c' 110 5 = 0 ∧ ¬ 0 < cnt (lfr c W P) N) ∨ (c' 110 5 = 1 ∧ 0 < cnt (lfr c W P) N))
section AskL
variable {sv : Nat → Int32} {L : Nat} {n : Nat} {lf : dlf} {c c' g g1 : cg} {o : cg × Option cv} {N W P k : Nat}
theorem as_hearl {D : Int} (h : AS 110 c W P k g) (hV : OHV c N) (hN : N ≤ 16) (hk : k < N) (hW : W ≤ 5) (hs : ohs c k = 0) (hp : ohp c k = P) (hD : (D = 0 ∧ ¬ dbk c P (k + 1)) ∨ (D = 1 ∧ dbk c P (k + 1))) (hh : zr sv L n 93 0 (darg 0 [(4, 110), (4, 29 + ((k : Int)))]) [] (cup g 110 4 D) (g1, none)) : AS 110 c W P (k + 1) g1 := by
  obtain ⟨a1, ⟨a2, a3⟩, ⟨m, b1, b2, b3⟩, a4, a5, ⟨e, d1, d2, d3⟩, -⟩ := h
  obtain ⟨v1, v2, v3, v4, v5⟩ := hV k hk
  have hx := a4 (oht c k) (by omega)
  have hy := a5 (ohq c k) (by omega) (oht c k) (by omega)
  have lx := cnt_le (f := oth c W P (oht c k)) k
  have ly := cnt_le (f := alkx c W P (ohq c k) (oht c k)) k
  have st : isof c P (oht c k) k = true := isof_i.mpr ⟨hs, hp, rfl⟩
  have G : ∀ i j : Nat, i ≠ 110 → cup g 110 4 D i j = g i j := fun i j hi => cup_ne (fun q => hi q.1)
  have hhh := t_hear_110 (x := cnt (oth c W P (oht c k)) k) (y := cnt (alkx c W P (ohq c k) (oht c k)) k) (tw := c (17 + 2 * W) 4) hW (show P ≤ 5 by omega) v2 v3 v4 v5 (by omega) (by omega) (by omega) (by rw [cup_ne (by omega)]; exact a2) (by rw [cup_ne (by omega)]; exact a3) (v1.fr (fun j => by rw [G _ _ (by omega)]; exact a1 _ _ (by omega) (by omega) (by omega))) (by rw [G _ _ (by omega)]; exact a1 _ _ (by omega) (by omega) (by omega)) (by rw [G _ _ (by omega)]; exact hx) (by rw [G _ _ (by omega)]; exact hy) hh rfl rfl
  rcases hhh with ⟨⟨z1, z2⟩, q⟩ | ⟨⟨z1, z2⟩, q⟩ | ⟨z, q⟩
  · have q := oV q
    have nw : ohw c k ≠ W := nt_ne z1
    refine ⟨fun i j i1 i2 i3 => by rw [q, cup_ne (by omega), cup_ne (by omega), G _ _ i1]; exact a1 i j i1 i2 i3, ⟨by rw [q, cup_ne (by omega), cup_ne (by omega), cup_ne (by omega)]; exact a2, by rw [q, cup_ne (by omega), cup_ne (by omega), cup_ne (by omega)]; exact a3⟩, ⟨m, by rw [q, cup_ne (by omega), cup_ne (by omega), cup_ne (by omega)]; exact b1, b2, fun T hT => iff_same (b3 T hT) (bf (fun q => by have := spk_i.mp q; omega))⟩, fun T hT => ?_, fun Q hQ T hT => ?_, ⟨e, by rw [q, cup_ne (by omega), cup_ne (by omega), cup_ne (by omega)]; exact d1, d2, fun Q hQ T hT => iff_same (d3 Q hQ T hT) (bf (fun q => by have := (ech_i.mp q).2.2; omega))⟩, ?_⟩
    · rw [q, cup_ne (by omega)]
      by_cases e : T = oht c k
      · rw [e, cup_at, cnt_s (oth_i.mpr ⟨⟨hs, hp, rfl⟩, nw⟩)]; omega
      · rw [cup_ne (by omega), G _ _ (by omega)]
        exact cnt_same (a4 T hT) (bf (fun q => by have := (oth_i.mp q).1.2.2; omega))
    · rw [q]
      by_cases e : Q = ohq c k ∧ T = oht c k
      · rw [e.1, e.2, cup_at, cnt_s (alkx_i.mpr ⟨⟨hs, hp, rfl⟩, nw, rfl⟩)]; omega
      · rw [cup_ne (by omega), cup_ne (by omega), G _ _ (by omega)]
        exact cnt_same (a5 Q hQ T hT) (bf (fun q => by have := alkx_i.mp q; omega))
    · rw [q, cup_ne (by omega), cup_ne (by omega), cup_at]; exact hD
  · have q := oV q
    have nw : ohw c k ≠ W := nt_ne z1
    refine ⟨fun i j i1 i2 i3 => by rw [q, cup_ne (by omega), cup_ne (by omega), cup_ne (by omega), G _ _ i1]; exact a1 i j i1 i2 i3, ⟨by rw [q, cup_ne (by omega), cup_ne (by omega), cup_ne (by omega), cup_ne (by omega)]; exact a2, by rw [q, cup_ne (by omega), cup_ne (by omega), cup_ne (by omega), cup_ne (by omega)]; exact a3⟩, ⟨m, by rw [q, cup_ne (by omega), cup_ne (by omega), cup_ne (by omega), cup_ne (by omega)]; exact b1, b2, fun T hT => iff_same (b3 T hT) (bf (fun q => by have := spk_i.mp q; omega))⟩, fun T hT => ?_, fun Q hQ T hT => ?_, ⟨e ||| 2 ^ (ohq c k + 5 * oht c k), ?_, tblt d2 (by omega), fun Q hQ T hT => ?_⟩, ?_⟩
    · rw [q, cup_ne (by omega), cup_ne (by omega)]
      by_cases e : T = oht c k
      · rw [e, cup_at, cnt_s (oth_i.mpr ⟨⟨hs, hp, rfl⟩, nw⟩)]; omega
      · rw [cup_ne (by omega), G _ _ (by omega)]
        exact cnt_same (a4 T hT) (bf (fun q => by have := (oth_i.mp q).1.2.2; omega))
    · rw [q, cup_ne (by omega)]
      by_cases e : Q = ohq c k ∧ T = oht c k
      · rw [e.1, e.2, cup_at, cnt_s (alkx_i.mpr ⟨⟨hs, hp, rfl⟩, nw, rfl⟩)]; omega
      · rw [cup_ne (by omega), cup_ne (by omega), G _ _ (by omega)]
        exact cnt_same (a5 Q hQ T hT) (bf (fun q => by have := alkx_i.mp q; omega))
    · rw [q, cup_at, cup_ne (by omega), d1, show ((ohq c k : Int) + 5 * (oht c k : Int)) = ((ohq c k + 5 * oht c k : Nat) : Int) by omega, lsl1 _ (by omega), lor_n (lt40 d2) (lt40 (Nat.pow_lt_pow_right (by decide) (by omega)))]
    · rw [tbor, Bool.or_eq_true, d3 Q hQ T hT, cnt_p1, decide_eq_true_iff]
      constructor
      · rintro (x | x)
        · exact Or.inl x
        · exact Or.inr (ech_i.mpr ⟨⟨hs, hp, by omega⟩, ⟨nw, by omega⟩, z2⟩)
      · rintro (x | x)
        · exact Or.inl x
        · have := ech_i.mp x
          exact Or.inr (by omega)
    · rw [q, cup_ne (by omega), cup_ne (by omega), cup_ne (by omega), cup_at]; exact hD
  · have q := oV q
    have nw : ohw c k = W := by omega
    refine ⟨fun i j i1 i2 i3 => by rw [q, cup_ne (by omega), G _ _ i1]; exact a1 i j i1 i2 i3, ⟨by rw [q, cup_ne (by omega), cup_ne (by omega)]; exact a2, by rw [q, cup_ne (by omega), cup_ne (by omega)]; exact a3⟩, ⟨m ||| 2 ^ oht c k, ?_, tblt b2 (by omega), fun T hT => ?_⟩, fun T hT => ?_, fun Q hQ T hT => ?_, ⟨e, by rw [q, cup_ne (by omega), cup_ne (by omega)]; exact d1, d2, fun Q hQ T hT => iff_same (d3 Q hQ T hT) (bf (fun q => by have := (ech_i.mp q).2.1; omega))⟩, ?_⟩
    · have p8 : (2 : Nat) ^ 8 ≤ 2 ^ 30 := by decide
      rw [q, cup_at, cup_ne (by omega), b1, bsl1 _ (by omega), bor_n (Nat.lt_of_lt_of_le b2 p8) (Nat.pow_lt_pow_right (by decide) (by omega))]
    · rw [tbor, Bool.or_eq_true, b3 T hT, cnt_p1, decide_eq_true_iff]
      constructor
      · rintro (x | x)
        · exact Or.inl x
        · exact Or.inr (spk_i.mpr ⟨hs, hp, x, nw⟩)
      · rintro (x | x)
        · exact Or.inl x
        · exact Or.inr (spk_i.mp x).2.2.1
    · rw [q, cup_ne (by omega), G _ _ (by omega)]
      exact cnt_same (a4 T hT) (bf (fun q => by have := (oth_i.mp q).2; omega))
    · rw [q, cup_ne (by omega), G _ _ (by omega)]
      exact cnt_same (a5 Q hQ T hT) (bf (fun q => by have := (alkx_i.mp q).2.1; omega))
    · rw [q, cup_ne (by omega), cup_at]; exact hD
end AskL
section AskL2
variable {sv : Nat → Int32} {L : Nat} {n : Nat} {lf : dlf} {c c' g g1 : cg} {o : cg × Option cv} {N W P k nq : Nat}
theorem ask_okl (hW : W ≤ 5) (hP : P ≤ 5) (hN16 : N ≤ 16) (hN : c 3 9 = (N : Int)) (hV : OHV c N) (hWq : W < nq) (hF : FR6 c nq) (h : zr sv L n 91 0 lf [] c o) (h0 : lf 0 = (4, 110)) (h1 : lf 1 = (0, (W : Int))) (h2 : lf 2 = (0, (P : Int))) : ∃ c', o = (c', none) ∧ ASDl c c' N W P := by
  obtain ⟨lf1, a0, a3, h⟩ := t_ask0_110 hW hP h h0 h1 h2
  have s27 : ∃ n lf g, lf 0 = (4, 110) ∧ lf 3 = (0, 0) ∧ (AFR 110 c g ∧ g 110 1 = (W : Int) ∧ g 110 2 = (P : Int) ∧ g 110 3 = 0 ∧ g 110 8 = 0 ∧ g 110 4 = 0 ∧ ∀ T : Nat, T < 8 → g 111 T = 0) ∧ zr sv L n 91 48 lf [] g o := by
    refine zloop (fun k lf g => lf 0 = (4, 110) ∧ lf 3 = (0, (k : Int)) ∧ k ≤ 8 ∧ AFR 110 c g ∧ g 110 1 = (W : Int) ∧ g 110 2 = (P : Int) ∧ g 110 3 = 0 ∧ g 110 8 = 0 ∧ g 110 4 = 0 ∧ ∀ T : Nat, T < k → g 111 T = 0) _ ?_ n 0 lf1 _ ⟨a0, a3, by decide, fun i j i1 _ _ => by rw [cup_ne (by omega), cup_ne (by omega), cup_ne (by omega), cup_ne (by omega), cup_ne (by omega)], by rw [cup_ne (by omega), cup_ne (by omega), cup_ne (by omega), cup_ne (by omega), cup_at], by rw [cup_ne (by omega), cup_ne (by omega), cup_ne (by omega), cup_at], by rw [cup_ne (by omega), cup_ne (by omega), cup_at], by rw [cup_ne (by omega), cup_at], by rw [cup_at], fun T hT => absurd hT (Nat.not_lt_zero T)⟩ h
    intro n k lf g ⟨b0, b3, bk, b4, b5, b6, b7, b8, b9, b10⟩ h
    by_cases hk : k < 8
    · obtain ⟨lf2, y0, y3, h⟩ := t_ask27s_110 (by omega) h b0 b3
      exact Or.inr ⟨lf2, _, ⟨y0, by rw [y3]; exact congrArg _ (Int.add_comm _ _), by omega, fun i j i1 i2 i3 => by rw [cup_ne (by omega)]; exact b4 i j i1 i2 i3, by rw [cup_ne (by omega)]; exact b5, by rw [cup_ne (by omega)]; exact b6, by rw [cup_ne (by omega)]; exact b7, by rw [cup_ne (by omega)]; exact b8, by rw [cup_ne (by omega)]; exact b9, fun T hT => by
        by_cases e : T = k
        · rw [e, cup_at]
        · rw [cup_ne (by omega)]; exact b10 T (by omega)⟩, h⟩
    · have : k = 8 := by omega
      subst this
      obtain ⟨lf2, y0, y3, h⟩ := t_ask27e_110 h b0 b3
      exact Or.inl ⟨n, lf2, g, y0, y3, ⟨b4, b5, b6, b7, b8, b9, b10⟩, h⟩
  obtain ⟨n, lf2, g, c0, c3, hg, h⟩ := s27
  have s48 : ∃ n lf g, lf 0 = (4, 110) ∧ lf 3 = (2, 0) ∧ lf 5 = (0, 0) ∧ lf 6 = (0, 0) ∧ (AFR 110 c g ∧ g 110 1 = (W : Int) ∧ g 110 2 = (P : Int) ∧ g 110 3 = 0 ∧ g 110 8 = 0 ∧ g 110 4 = 0 ∧ (∀ T : Nat, T < 8 → g 111 T = 0) ∧ ∀ T : Nat, T < 40 → g 112 T = 0) ∧ zr sv L n 91 75 lf [] g o := by
    refine zloop (fun k lf g => lf 0 = (4, 110) ∧ lf 3 = (0, (k : Int)) ∧ k ≤ 40 ∧ AFR 110 c g ∧ g 110 1 = (W : Int) ∧ g 110 2 = (P : Int) ∧ g 110 3 = 0 ∧ g 110 8 = 0 ∧ g 110 4 = 0 ∧ (∀ T : Nat, T < 8 → g 111 T = 0) ∧ ∀ T : Nat, T < k → g 112 T = 0) _ ?_ n 0 lf2 g ⟨c0, c3, by decide, hg.1, hg.2.1, hg.2.2.1, hg.2.2.2.1, hg.2.2.2.2.1, hg.2.2.2.2.2.1, hg.2.2.2.2.2.2, fun T hT => absurd hT (Nat.not_lt_zero T)⟩ h
    intro n k lf g ⟨b0, b3, bk, b4, b5, b6, b7, b8, b9, b10, b11⟩ h
    by_cases hk : k < 40
    · obtain ⟨lf2, y0, y3, h⟩ := t_ask48s_110 (by omega) h b0 b3
      exact Or.inr ⟨lf2, _, ⟨y0, by rw [y3]; exact congrArg _ (Int.add_comm _ _), by omega, fun i j i1 i2 i3 => by rw [cup_ne (by omega)]; exact b4 i j i1 i2 i3, by rw [cup_ne (by omega)]; exact b5, by rw [cup_ne (by omega)]; exact b6, by rw [cup_ne (by omega)]; exact b7, by rw [cup_ne (by omega)]; exact b8, by rw [cup_ne (by omega)]; exact b9, fun T hT => by rw [cup_ne (by omega)]; exact b10 T hT, fun T hT => by
        by_cases e : T = k
        · rw [e, cup_at]
        · rw [cup_ne (by omega)]; exact b11 T (by omega)⟩, h⟩
    · have : k = 40 := by omega
      subst this
      obtain ⟨lf2, y0, y3, y5, y6, h⟩ := t_ask48e_110 h b0 b3
      exact Or.inl ⟨n, lf2, g, y0, y3, y5, y6, ⟨b4, b5, b6, b7, b8, b9, b10, b11⟩, h⟩
  obtain ⟨n, lf3, g, d0, d3, d5, d6, ⟨e1, e2, e3, e4, e5, e6, e7, e8⟩, h⟩ := s48
  have z0 : ∀ {a : Nat}, (0 : Nat).testBit a = true ↔ 0 < (0 : Nat) := fun {a} => by rw [Nat.zero_testBit]; exact ⟨fun q => (by cases q), fun q => absurd q (Nat.lt_irrefl 0)⟩
  refine zloop (fun k lf g => k ≤ N ∧ lf 0 = (4, 110) ∧ lf 6 = (0, (k : Int)) ∧ AS 110 c W P k g ∧ ASL c P k lf) _ ?_ n 0 lf3 g ⟨by omega, d0, d6, ⟨e1, ⟨e2, e3⟩, ⟨0, e4, by decide, fun _ _ => z0⟩, e7, fun Q hQ T hT => e8 _ (by omega), ⟨0, e5, by decide, fun _ _ _ _ => z0⟩, Or.inl ⟨e6, fun ⟨_, i, _, hi, _⟩ => absurd hi (Nat.not_lt_zero i)⟩⟩, ⟨0, d3, by decide, fun _ _ _ _ => z0⟩, 0, d5, wset0⟩ h
  intro n k lf g ⟨hk, b0, b6, hA, hB⟩ h
  have gN : g 3 9 = (N : Int) := by rw [hA.1 3 9 (by decide) (by decide) (by decide)]; exact hN
  by_cases hlt : k < N
  · obtain ⟨v1, v2, v3, v4, v5⟩ := hV k hlt
    have hA' := hA
    have hB' := hB
    obtain ⟨a1, ⟨a2, a3⟩, -, -, -, -, a7⟩ := hA
    obtain ⟨⟨m, x1, x2, x3⟩, l, y1, y2⟩ := hB
    have hnxt : ∀ {D : Int} {lf' : dlf} {g1 : cg} {l' : Nat}, ohs c k = 0 → ohp c k = P → ((D = 0 ∧ ¬ dbk c P (k + 1)) ∨ (D = 1 ∧ dbk c P (k + 1))) → wset c (lip c P) (k + 1) l' → zr sv L n 93 0 (darg 0 [(4, 110), (4, 29 + ((k : Int)))]) [] (cup g 110 4 D) (g1, none) → lf' 0 = (4, 110) → lf' 3 = (2, lor (m : Int) (lsl 1 ((ohq c k : Int) + 5 * (oht c k : Int)))) → lf' 5 = (0, (l' : Int)) → lf' 6 = (0, 1 + (k : Int)) → (k + 1 ≤ N ∧ lf' 0 = (4, 110) ∧ lf' 6 = (0, ((k + 1 : Nat) : Int)) ∧ AS 110 c W P (k + 1) g1 ∧ ASL c P (k + 1) lf') := by
      intro D lf' g1 l' hs hp hD hl' hh w0 w3 w5 w6
      refine ⟨hlt, w0, by rw [w6]; exact congrArg _ (Int.add_comm _ _), as_hearl hA' hV hN16 hlt hW hs hp hD hh, ⟨m ||| 2 ^ (ohq c k + 5 * oht c k), ?_, tblt x2 (by omega), fun Q hQ T hT => ?_⟩, l', w5, hl'⟩
      · rw [w3, show ((ohq c k : Int) + 5 * (oht c k : Int)) = ((ohq c k + 5 * oht c k : Nat) : Int) by omega, lsl1 _ (by omega), lor_n (lt40 x2) (lt40 (Nat.pow_lt_pow_right (by decide) (by omega)))]
      · rw [tbor, Bool.or_eq_true, x3 Q hQ T hT, cnt_p1, decide_eq_true_iff]
        constructor
        · rintro (x | x)
          · exact Or.inl x
          · exact Or.inr (says_i.mpr ⟨hs, hp, by omega, by omega⟩)
        · rintro (x | x)
          · exact Or.inl x
          · have := says_i.mp x
            exact Or.inr (by omega)
    have hX := l31 (t := oht c k) (lt40 x2) (by omega)
    have hsd := said_o hV hlt x2 x3
    have e2 := lsl1 (ohq c k) (by omega)
    have stp := t_ask75s_110 hW hP v2 v3 v4 v5 (by omega) hN16 gN a2 a3 (v1.fr (fun j => a1 _ _ (by omega) (by omega) (by omega))) (show g (18 + 2 * ohp c k) (oht c k) = trh c (ohp c k) (oht c k) from a1 _ _ (by omega) (by omega) (by omega)) hlt h b0 x1 y1 b6
    rw [hX, e2] at stp
    generalize hXe : (m >>> (5 * oht c k)) % 32 = X at stp hsd
    generalize hYe : 2 ^ ohq c k = Y at stp hsd
    have no : ohs c k = 0 → ohp c k = P → (csgn ((X : Int) - 0) = 0 ∨ (csgn ((X : Int) - 0) ≠ 0 ∧ csgn ((X : Int) - (Y : Int)) = 0)) → ∀ D : Int, D = bor (g 110 4) 0 → ((D = 0 ∧ ¬ dbk c P (k + 1)) ∨ (D = 1 ∧ dbk c P (k + 1))) := by
      intro hs hp hx D hD
      have hn : ¬ (X ≠ 0 ∧ X ≠ Y) := by
        rintro ⟨p1, p2⟩
        rcases hx with hx | ⟨-, hx⟩
        · have := csgn_z.mp hx; omega
        · have := csgn_z.mp hx; omega
      rw [dbk_s hs hp, ← hsd]
      rcases a7 with ⟨q1, q2⟩ | ⟨q1, q2⟩
      · exact Or.inl ⟨by rw [hD, q1]; rfl, fun q => q.elim q2 hn⟩
      · exact Or.inr ⟨by rw [hD, q1]; rfl, Or.inl q2⟩
    have hyes : ohs c k = 0 → ohp c k = P → csgn ((X : Int) - 0) ≠ 0 → csgn ((X : Int) - (Y : Int)) ≠ 0 → ∀ D : Int, D = bor (g 110 4) 1 → ((D = 0 ∧ ¬ dbk c P (k + 1)) ∨ (D = 1 ∧ dbk c P (k + 1))) := by
      intro hs hp h1 h2 D hD
      have hn : X ≠ 0 ∧ X ≠ Y := ⟨fun e => h1 (csgn_z.mpr (by omega)), fun e => h2 (csgn_z.mpr (by omega))⟩
      refine Or.inr ⟨?_, (dbk_s hs hp).mpr (Or.inr (hsd.mp hn))⟩
      rcases a7 with ⟨q1, -⟩ | ⟨q1, -⟩ <;> rw [hD, q1] <;> rfl
    have lt : ohs c k = 0 → ohp c k = P → trh c (ohp c k) (oht c k) = (ohq c k : Int) → ∀ z : Int, z = bor (l : Int) 0 → ∃ l' : Nat, z = (l' : Int) ∧ wset c (lip c P) (k + 1) l' := fun hs hp hv z hz => ⟨l, by rw [hz, bor0 _ y2.1], wset_n y2 (bf (fun q => (lip_i.mp q).2.2 hv))⟩
    have ll : ohs c k = 0 → ohp c k = P → trh c (ohp c k) (oht c k) ≠ (ohq c k : Int) → ∀ z : Int, z = bor (l : Int) (bsl 1 (ohw c k : Int)) → ∃ l' : Nat, z = (l' : Int) ∧ wset c (lip c P) (k + 1) l' := fun hs hp hv z hz => ⟨_, by rw [hz, (bor6 _ y2.1 _ (by omega)).1], wset_s y2 (lip_i.mpr ⟨hs, hp, hv⟩) v2⟩
    rcases stp with ⟨z, lf2, w0, w3, w5, w6, h⟩ | ⟨z, g2, kh, lf2, w0, w3, w5, w6, h⟩ | ⟨z, g2, kh, lf2, w0, w3, w5, w6, h⟩ | ⟨z, g2, kh, lf2, w0, w3, w5, w6, h⟩ | ⟨z, g2, kh, lf2, w0, w3, w5, w6, h⟩
    · exact Or.inr ⟨lf2, _, ⟨hlt, w0, by rw [w6]; exact congrArg _ (Int.add_comm _ _), as_skip hA' (by omega), asl_skip hB' (by rw [w3, x1]) (by rw [w5, y1]) (by omega)⟩, h⟩
    · have hs : ohs c k = 0 := by rcases z with z | z <;> exact z.1
      have hp : ohp c k = P := by rcases z with z | z <;> have := z.2.1 <;> omega
      obtain ⟨l', q1, q2⟩ := ll hs hp (by rcases z with ⟨-, -, -, z⟩ | ⟨-, -, -, -, z⟩ <;> exact z) _ rfl
      rw [q1] at w5
      exact Or.inr ⟨lf2, _, hnxt hs hp (no hs hp (by rcases z with ⟨-, -, z, -⟩ | ⟨-, -, z, z', -⟩; exact Or.inl z; exact Or.inr ⟨z, z'⟩) _ rfl) q2 kh w0 w3 w5 w6, h⟩
    · have hs : ohs c k = 0 := by rcases z with z | z <;> exact z.1
      have hp : ohp c k = P := by rcases z with z | z <;> have := z.2.1 <;> omega
      obtain ⟨l', q1, q2⟩ := lt hs hp (by rcases z with ⟨-, -, -, z⟩ | ⟨-, -, -, -, z⟩ <;> exact z) _ rfl
      rw [q1] at w5
      exact Or.inr ⟨lf2, _, hnxt hs hp (no hs hp (by rcases z with ⟨-, -, z, -⟩ | ⟨-, -, z, z', -⟩; exact Or.inl z; exact Or.inr ⟨z, z'⟩) _ rfl) q2 kh w0 w3 w5 w6, h⟩
    · obtain ⟨hs, hp, z1, z2, z3⟩ := z
      have hp : ohp c k = P := by omega
      obtain ⟨l', q1, q2⟩ := ll hs hp z3 _ rfl
      rw [q1] at w5
      exact Or.inr ⟨lf2, _, hnxt hs hp (hyes hs hp z1 z2 _ rfl) q2 kh w0 w3 w5 w6, h⟩
    · obtain ⟨hs, hp, z1, z2, z3⟩ := z
      have hp : ohp c k = P := by omega
      obtain ⟨l', q1, q2⟩ := lt hs hp z3 _ rfl
      rw [q1] at w5
      exact Or.inr ⟨lf2, _, hnxt hs hp (hyes hs hp z1 z2 _ rfl) q2 kh w0 w3 w5 w6, h⟩
  · have ek : k = N := by omega
    subst ek
    have hA0 := hA
    obtain ⟨a1, ⟨a2, a3⟩, -⟩ := hA
    obtain ⟨⟨m, x1, -, -⟩, l, y1, y2⟩ := hB
    obtain ⟨fr, f1, f2⟩ := hF W hWq
    have hfr : g (17 + 2 * W) 5 = (fr : Int) := by rw [a1 _ _ (by omega) (by omega) (by omega)]; exact f2
    have hky : ban (fr : Int) (l : Int) ≠ 0 ↔ 0 < cnt (lfr c W P) k := by
      rw [and6 fr f1 l y2.1, cnt_pos]
      constructor
      · intro ⟨v, w1, w2, w3⟩
        obtain ⟨i, i1, i2, i3⟩ := (y2.2 v w1).mp w3
        have x := lip_i.mp i2
        refine ⟨i, i1, lfr_i.mpr ⟨x.1, x.2.2, x.2.1, ?_⟩⟩
        rw [f2, i3]
        exact ((isb6 fr f1 v w1).1).mpr w2
      · intro ⟨i, i1, i2⟩
        have x := lfr_i.mp i2
        obtain ⟨-, v2, -, -, -⟩ := hV i i1
        have b := x.2.2.2
        rw [f2] at b
        exact ⟨ohw c i, by omega, ((isb6 fr f1 _ (by omega)).1).mp b, (y2.2 _ (by omega)).mpr ⟨i, i1, lip_i.mpr ⟨x.1, x.2.2.1, x.2.1⟩, rfl⟩⟩
    have hput : ∀ z : Int, ((z = 0 ∧ ¬ 0 < cnt (lfr c W P) k) ∨ (z = 1 ∧ 0 < cnt (lfr c W P) k)) → ASDl c (cup g 110 5 z) k W P := by
      intro z hz
      obtain ⟨b1, ⟨b2, b3⟩, ⟨m1, c1, c2, c3⟩, b5, b6, ⟨m2, d1, d2, d3⟩, b8⟩ := hA0
      refine ⟨⟨fun i j i1 i2 i3 => by rw [cup_ne (by omega)]; exact b1 i j i1 i2 i3, ⟨by rw [cup_ne (by omega)]; exact b2, by rw [cup_ne (by omega)]; exact b3⟩, ⟨m1, by rw [cup_ne (by omega)]; exact c1, c2, c3⟩, fun T hT => by rw [cup_ne (by omega)]; exact b5 T hT, fun Q hQ T hT => by rw [cup_ne (by omega)]; exact b6 Q hQ T hT, ⟨m2, by rw [cup_ne (by omega)]; exact d1, d2, d3⟩, by rw [cup_ne (by omega)]; exact b8⟩, by rw [cup_at]; exact hz⟩
    rcases t_ask75e_110 hW hP hN16 hN16 gN a2 a3 hfr (Nat.le_refl _) h b0 x1 y1 b6 with ⟨z, e⟩ | ⟨z, e⟩
    · exact Or.inl ⟨_, e, hput 0 (Or.inl ⟨rfl, fun q => hky.mpr q z⟩)⟩
    · exact Or.inl ⟨_, e, hput 1 (Or.inr ⟨rfl, hky.mp z⟩)⟩
end AskL2
section HindL
variable {sv : Nat → Int32} {L : Nat} {n : Nat} {lf : dlf} {c c' : cg} {o : cg × Option cv} {N W P Q T nq : Nat}
theorem echo_il (hA : AS 110 c W P N c') (hV : OHV c N) (hQ : Q ≤ 4) (hT : T ≤ 7) (htw : c (17 + 2 * W) 4 ≠ (W : Int)) : csgn (lan (lsr (c' 110 8) ((Q : Int) + 5 * (T : Int))) 1 - 0) ≠ 0 ↔ c (17 + 2 * W) 4 ≠ -1 ∧ 0 < cnt (bkd c P Q T (c (17 + 2 * W) 4)) N := by
  obtain ⟨-, -, -, -, -, ⟨m, d1, d2, d3⟩, -⟩ := hA
  rw [d1, show ((Q : Int) + 5 * (T : Int)) = ((Q + 5 * T : Nat) : Int) by omega, lbit (lt40 d2) (by omega), d3 Q (by omega) T (by omega), cnt_pos, cnt_pos]
  constructor
  · intro ⟨i, i1, i2⟩
    obtain ⟨x1, x2, x3⟩ := ech_i.mp i2
    exact ⟨by omega, i, i1, bkd_i.mpr ⟨⟨x1.1, x1.2.1, x1.2.2, x2.2⟩, Or.inr x3⟩⟩
  · intro ⟨hn, i, i1, i2⟩
    obtain ⟨x1, x2⟩ := bkd_i.mp i2
    have x3 : (ohw c i : Int) = c (17 + 2 * W) 4 := x2.resolve_left hn
    exact ⟨i, i1, ech_i.mpr ⟨⟨x1.1, x1.2.1, x1.2.2.1⟩, ⟨fun e => htw (by rw [← x3, e]), x1.2.2.2⟩, x3⟩⟩
theorem price_okl (hA : ASDl c c' N W P) (hV : OHV c N) (hw : WOK c W) (hW : W ≤ 5) (hP : P ≤ 5) (hQ : Q ≤ 4) (hT : T ≤ 7) (hN16 : N ≤ 16) (h : zr sv L n 96 0 lf [] c' o) (h0 : lf 0 = (4, 110)) (h1 : lf 1 = (0, (Q : Int))) (h2 : lf 2 = (0, (T : Int))) : o = (c', some (0, fees c N W P Q T)) := by
  have hE := echo_il hA.1 hV hQ hT hw.2.1
  obtain ⟨⟨a1, ⟨a2, a3⟩, -, a5, a6, -, -⟩, -⟩ := hA
  have lx := cnt_le (f := oth c W P T) N
  have ly := cnt_le (f := alkx c W P Q T) N
  have F : ∀ i j : Nat, i < 110 → c' i j = c i j := fun i j hi => a1 i j (by omega) (by omega) (by omega)
  have hp := t_price_110 (x := cnt (oth c W P T) N) (y := cnt (alkx c W P Q T) N) (bi := c (17 + 2 * W) 3) (v := trh c P T) hW hP hQ hT (by omega) (by omega) a2 a3 (F _ _ (by omega)) (a5 T (by omega)) (a6 Q (by omega) T (by omega)) (F _ _ (by omega)) h h0 h1 h2
  rw [oag, F 3 5 (by decide), F 3 6 (by decide)] at hp
  rcases hp with ⟨z, e⟩ | ⟨⟨z1, z2, z3⟩, e⟩ | ⟨⟨z1, z2, z3⟩, e⟩
  · rw [e, fees_0 (by rcases hw.1 with q | q <;> omega)]
  · rw [e, fees_1 z2 (by omega) (fun q => hE.mpr q z3)]; rfl
  · rw [e, fees_2 z2 (by omega) (hE.mp z3)]; rfl
theorem hind_okl (hA : ASDl c c' N W P) (hV : OHV c N) (hw : WOK c W) (hW : W ≤ 5) (hP : P ≤ 5) (hQ : Q ≤ 4) (hT : T ≤ 7) (hN16 : N ≤ 16) (hN : c 3 9 = (N : Int)) (h : zr sv L n 94 0 lf [] c' o) (h0 : lf 0 = (4, 110)) (h1 : lf 1 = (0, (Q : Int))) (h2 : lf 2 = (0, (T : Int))) : o = (c', some (0, whys c N W P Q T)) := by
  have hE := echo_il hA.1 hV hQ hT hw.2.1
  obtain ⟨⟨a1, ⟨a2, a3⟩, ⟨m, b1, b2, b3⟩, a5, a6, -, a8⟩, a9⟩ := hA
  have lx := cnt_le (f := oth c W P T) N
  have ly := cnt_le (f := alkx c W P Q T) N
  have F : ∀ i j : Nat, i < 110 → c' i j = c i j := fun i j hi => a1 i j (by omega) (by omega) (by omega)
  have hp := t_hind_110 (x := cnt (oth c W P T) N) (y := cnt (alkx c W P Q T) N) (bi := c (17 + 2 * W) 3) (v := trh c P T) (pu := c (17 + 2 * W) 1) hW hP hQ hT hN16 (by omega) (by omega) (by rw [F _ _ (by decide)]; exact hN) a2 a3 (F _ _ (by omega)) (a5 T (by omega)) (a6 Q (by omega) T (by omega)) (F _ _ (by omega)) (F _ _ (by omega)) h h0 h1 h2
  have p8 : (2 : Nat) ^ 8 ≤ 2 ^ 30 := by decide
  have hb := bbit (a := m) (s := T) (Nat.lt_of_lt_of_le b2 p8) (by omega)
  rw [oag, F 3 5 (by decide), F 3 6 (by decide), b1, hb] at hp
  have hsp : ((m.testBit T).toNat : Int) = 0 → ¬ 0 < cnt (spk c W P T) N := fun e q => by
    rw [← b3 T (by omega)] at q
    rw [q] at e
    cases e
  have hsp' : ((m.testBit T).toNat : Int) ≠ 0 → 0 < cnt (spk c W P T) N := fun e => by
    rw [← b3 T (by omega)]
    cases hq : m.testBit T with
    | true => rfl
    | false => rw [hq] at e; exact absurd rfl e
  have hdb : dbk c P N ↔ 0 < cnt (dbh c P N) 8 := by
    rw [cnt_pos]
    constructor
    · intro ⟨X, i, j, i1, j1, i2, j2, hn⟩
      obtain ⟨-, -, -, -, v5⟩ := hV i i1
      have x := isof_i.mp i2
      exact ⟨X, by omega, (dbh_i hV).mpr ⟨i, i1, j, j1, i2, j2, hn⟩⟩
    · intro ⟨X, hX, hx⟩
      obtain ⟨i, i1, j, j1, i2, j2, hn⟩ := (dbh_i hV).mp hx
      exact ⟨X, i, j, i1, j1, i2, j2, hn⟩
  have hd0 : c' 110 4 = 0 → cnt (dbh c P N) 8 = 0 := fun e => by
    rcases a8 with ⟨x, y⟩ | ⟨x, y⟩
    · rw [hdb] at y; omega
    · omega
  have hd1 : c' 110 4 ≠ 0 → cnt (dbh c P N) 8 ≠ 0 := fun e => by
    rcases a8 with ⟨x, y⟩ | ⟨x, y⟩
    · exact absurd x e
    · rw [hdb] at y; omega
  have hl0 : c' 110 5 = 0 → ¬ 0 < cnt (lfr c W P) N := fun e => by
    rcases a9 with ⟨x, y⟩ | ⟨x, y⟩
    · exact y
    · omega
  have hl1 : c' 110 5 ≠ 0 → 0 < cnt (lfr c W P) N := fun e => by
    rcases a9 with ⟨x, y⟩ | ⟨x, y⟩
    · exact absurd x e
    · exact y
  have hpu := hw.2.2
  have i1 : c (17 + 2 * W) 3 ≠ 0 → fees c N W P Q T = 0 := fun e => fees_0 (Or.inr (hw.1.resolve_left e))
  have i2 : trh c P T ≠ (Q : Int) → c (17 + 2 * W) 3 = 0 → csgn (lan (lsr (c' 110 8) ((Q : Int) + 5 * (T : Int))) 1 - 0) = 0 → fees c N W P Q T = w32 (c 3 5 + w32 (c 3 6 * (cnt (gns c W P Q T) N : Int))) := fun e1 e2 e3 => fees_1 e1 (by omega) (fun q => hE.mpr q e3)
  have i3 : trh c P T ≠ (Q : Int) → c (17 + 2 * W) 3 = 0 → csgn (lan (lsr (c' 110 8) ((Q : Int) + 5 * (T : Int))) 1 - 0) ≠ 0 → fees c N W P Q T = qdi (w32 (w32 (c 3 5 + w32 (c 3 6 * (cnt (gns c W P Q T) N : Int))) + 1)) 2 := fun e1 e2 e3 => fees_2 e1 (by omega) (hE.mp e3)
  have hz0 : (N : Int) < 16 → ((m.testBit T).toNat : Int) = 0 → trh c P T ≠ (Q : Int) → (trh c P T = -1 ∨ c' 110 4 ≠ 0) → c' 110 5 = 0 → fees c N W P Q T ≤ c (17 + 2 * W) 1 → whys c N W P Q T = 0 := by
    intro x1 x2 x3 x4 x5 x6
    unfold whys
    rw [if_neg (by omega), if_neg (hsp x2), if_neg (fun q => x4.elim q.2.1 (fun y => hd1 y q.2.2)), if_neg (fun q => hl0 x5 q.2), if_neg (by omega)]
  have hz5 : (N : Int) < 16 → ((m.testBit T).toNat : Int) = 0 → trh c P T ≠ (Q : Int) → (trh c P T = -1 ∨ c' 110 4 ≠ 0) → c' 110 5 = 0 → c (17 + 2 * W) 1 < fees c N W P Q T → whys c N W P Q T = 5 := by
    intro x1 x2 x3 x4 x5 x6
    unfold whys
    rw [if_neg (by omega), if_neg (hsp x2), if_neg (fun q => x4.elim q.2.1 (fun y => hd1 y q.2.2)), if_neg (fun q => hl0 x5 q.2), if_pos (by omega)]
  have hz4 : (N : Int) < 16 → ((m.testBit T).toNat : Int) = 0 → trh c P T ≠ (Q : Int) → (trh c P T = -1 ∨ c' 110 4 ≠ 0) → c' 110 5 ≠ 0 → whys c N W P Q T = 4 := by
    intro x1 x2 x3 x4 x5
    unfold whys
    rw [if_neg (by omega), if_neg (hsp x2), if_neg (fun q => x4.elim q.2.1 (fun y => hd1 y q.2.2)), if_pos ⟨x3, hl1 x5⟩]
  rcases hp with ⟨z, e⟩ | ⟨z, e⟩ | ⟨z, e⟩ | ⟨⟨z1, z2, z3, z4, z5⟩, e⟩ | ⟨⟨z1, z2⟩, e⟩ | ⟨z, e⟩
  · rw [e]
    rcases z with ⟨z1, z2, z3, z4, z5, z6, z7⟩ | ⟨z1, z2, z3, z4, z5, z6, z7, z8⟩ | ⟨z1, z2, z3, z4, z5, z6, z7, z8⟩ | ⟨z1, z2, z3, z4, z4', z5, z6, z7⟩ | ⟨z1, z2, z3, z4, z4', z5, z6, z7, z8⟩ | ⟨z1, z2, z3, z4, z4', z5, z6, z7, z8⟩ | ⟨z1, z2, z3⟩
    · rw [hz0 z1 z2 z3 (Or.inl z4) z5 (by rw [i1 z6]; exact z7)]
    · rw [hz0 z1 z2 z3 (Or.inl z4) z5 (by rw [i2 z3 z6 z7]; exact z8)]
    · rw [hz0 z1 z2 z3 (Or.inl z4) z5 (by rw [i3 z3 z6 z7]; exact z8)]
    · rw [hz0 z1 z2 z3 (Or.inr z4') z5 (by rw [i1 z6]; exact z7)]
    · rw [hz0 z1 z2 z3 (Or.inr z4') z5 (by rw [i2 z3 z6 z7]; exact z8)]
    · rw [hz0 z1 z2 z3 (Or.inr z4') z5 (by rw [i3 z3 z6 z7]; exact z8)]
    · have hf : fees c N W P Q T = 0 := fees_0 (Or.inl z3)
      unfold whys
      rw [if_neg (by omega), if_neg (hsp z2), if_neg (fun q => q.1 z3), if_neg (fun q => q.1 z3), if_neg (by omega)]
  · rw [e]
    rcases z with ⟨z1, z2, z3, z4, z5, z6, z7⟩ | ⟨z1, z2, z3, z4, z5, z6, z7, z8⟩ | ⟨z1, z2, z3, z4, z5, z6, z7, z8⟩ | ⟨z1, z2, z3, z4, z4', z5, z6, z7⟩ | ⟨z1, z2, z3, z4, z4', z5, z6, z7, z8⟩ | ⟨z1, z2, z3, z4, z4', z5, z6, z7, z8⟩
    · omega
    · rw [hz5 z1 z2 z3 (Or.inl z4) z5 (by rw [i2 z3 z6 z7]; exact z8)]
    · rw [hz5 z1 z2 z3 (Or.inl z4) z5 (by rw [i3 z3 z6 z7]; exact z8)]
    · omega
    · rw [hz5 z1 z2 z3 (Or.inr z4') z5 (by rw [i2 z3 z6 z7]; exact z8)]
    · rw [hz5 z1 z2 z3 (Or.inr z4') z5 (by rw [i3 z3 z6 z7]; exact z8)]
  · rw [e]
    rcases z with ⟨z1, z2, z3, z4, z5⟩ | ⟨z1, z2, z3, z4, z4', z5⟩
    · rw [hz4 z1 z2 z3 (Or.inl z4) z5]
    · rw [hz4 z1 z2 z3 (Or.inr z4') z5]
  · rw [e]
    unfold whys
    rw [if_neg (by omega), if_neg (hsp z2), if_pos ⟨z3, z4, hd0 z5⟩]
  · rw [e]
    unfold whys
    rw [if_neg (by omega), if_pos (hsp' z2)]
  · rw [e]
    unfold whys
    rw [if_pos (by omega)]
end HindL
end
section
/-! what the one who lives does, on both sides -/
theorem qdi_n {a b : Nat} (ha : a < 2147483648) (h0 : 0 < b) (hb : b < 2147483648) : qdi (a : Int) (b : Int) = ((a / b : Nat) : Int) := by
  have hq : a / b ≤ a := Nat.div_le_self a b
  unfold qdi
  rw [i32_div ⟨by omega, by omega⟩ ⟨by omega, by omega⟩, Int.tdiv_eq_ediv_of_nonneg (by omega), show ((a : Int) / (b : Int)) = ((a / b : Nat) : Int) from rfl]
  generalize a / b = q at hq ⊢
  exact i32_int ⟨by omega, by omega⟩
theorem qre_n {a b : Nat} (ha : a < 2147483648) (h0 : 0 < b) (hb : b < 2147483648) : qre (a : Int) (b : Int) = ((a % b : Nat) : Int) := by
  unfold qre
  rw [i32_rem ⟨by omega, by omega⟩ ⟨by omega, by omega⟩ (by omega), Int.tmod_eq_emod_of_nonneg (by omega)]
  rfl
/-- where the cells below 45 are the same -/
def CB (c c2 : cg) : Prop := ∀ k j : Nat, k < 45 → c2 k j = c k j
section Cb
variable {c c2 : cg} {N W P Q T k : Nat}
theorem CB.o (h : CB c c2) (hk : k < 16) : ohw c2 k = ohw c k ∧ ohp c2 k = ohp c k ∧ ohq c2 k = ohq c k ∧ oht c2 k = oht c k ∧ ohs c2 k = ohs c k := by
  unfold ohw ohp ohq oht ohs
  rw [h (29 + k) 0 (by omega), h (29 + k) 1 (by omega), h (29 + k) 2 (by omega), h (29 + k) 3 (by omega), h (29 + k) 5 (by omega)]
  exact ⟨rfl, rfl, rfl, rfl, rfl⟩
theorem CB.isz (h : CB c c2) (hk : k < 16) : isof c2 P T k = isof c P T k := by
  obtain ⟨o0, o1, o2, o3, o5⟩ := h.o hk
  unfold isof
  rw [o1, o3, o5]
theorem CB.spz (h : CB c c2) (hk : k < 16) : spk c2 W P T k = spk c W P T k := by
  obtain ⟨o0, o1, o2, o3, o5⟩ := h.o hk
  unfold spk
  rw [h.isz hk, o0]
theorem CB.otz (h : CB c c2) (hk : k < 16) : oth c2 W P T k = oth c W P T k := by
  obtain ⟨o0, o1, o2, o3, o5⟩ := h.o hk
  unfold oth
  rw [h.isz hk, o0]
theorem CB.akz (h : CB c c2) (hk : k < 16) : alkx c2 W P Q T k = alkx c W P Q T k := by
  obtain ⟨o0, o1, o2, o3, o5⟩ := h.o hk
  unfold alkx
  rw [h.isz hk, o0, o2]
theorem CB.ecz (h : CB c c2) (hk : k < 16) (hW : W ≤ 5) : ech c2 W P Q T k = ech c W P Q T k := by
  obtain ⟨o0, o1, o2, o3, o5⟩ := h.o hk
  unfold ech
  rw [h.isz hk, o0, o2, h (17 + 2 * W) 4 (by omega)]
theorem CB.gnz (h : CB c c2) (hk : k < 16) : gns c2 W P Q T k = gns c W P Q T k := by
  obtain ⟨o0, o1, o2, o3, o5⟩ := h.o hk
  unfold gns
  rw [h.isz hk, o0, o2]
theorem CB.bkz {u : Int} (h : CB c c2) (hk : k < 16) : bkd c2 P Q T u k = bkd c P Q T u k := by
  obtain ⟨o0, o1, o2, o3, o5⟩ := h.o hk
  unfold bkd says
  rw [h.isz hk, o0, o2]
theorem CB.trz {p t : Nat} (h : CB c c2) (hp : p ≤ 5) : trh c2 p t = trh c p t := h (18 + 2 * p) t (by omega)
theorem CB.lfz (h : CB c c2) (hk : k < 16) (hp : ohp c k ≤ 5) (hW : W ≤ 5) : lfr c2 W P k = lfr c W P k := by
  obtain ⟨o0, o1, o2, o3, o5⟩ := h.o hk
  unfold lfr
  rw [o5, o1, o3, o2, o0, h.trz hp, h (17 + 2 * W) 5 (by omega)]
theorem CB.dbz (h : CB c c2) (hk : k ≤ 16) : dbk c2 P k ↔ dbk c P k := by
  constructor
  · intro ⟨X, i, j, i1, j1, i2, j2, hn⟩
    exact ⟨X, i, j, i1, j1, (h.isz (k := i) (by omega)).symm.trans i2, (h.isz (k := j) (by omega)).symm.trans j2, fun e => hn (by rw [(h.o (k := i) (by omega)).2.2.1, (h.o (k := j) (by omega)).2.2.1]; exact e)⟩
  · intro ⟨X, i, j, i1, j1, i2, j2, hn⟩
    exact ⟨X, i, j, i1, j1, (h.isz (k := i) (by omega)).trans i2, (h.isz (k := j) (by omega)).trans j2, fun e => hn (by rw [← (h.o (k := i) (by omega)).2.2.1, ← (h.o (k := j) (by omega)).2.2.1]; exact e)⟩
theorem CB.pmz (h : CB c c2) : ∀ k : Nat, k ≤ 16 → pmk c2 P T k = pmk c P T k
  | 0, _ => rfl
  | k + 1, hk => by
    show cond (isof c2 P T k) (pmk c2 P T k ||| 2 ^ ohq c2 k) (pmk c2 P T k) = cond (isof c P T k) (pmk c P T k ||| 2 ^ ohq c k) (pmk c P T k)
    rw [h.isz (k := k) (by omega), CB.pmz h k (by omega), (h.o (k := k) (by omega)).2.2.1]
theorem CB.dhz (h : CB c c2) (hN : N ≤ 16) : dbh c2 P N T = dbh c P N T := by
  unfold dbh
  rw [h.pmz N hN]
theorem CB.fez (h : CB c c2) (hN : N ≤ 16) (hW : W ≤ 5) (hP : P ≤ 5) : fees c2 N W P Q T = fees c N W P Q T := by
  unfold fees rate
  rw [h.trz hP, h (17 + 2 * W) 3 (by omega), h (17 + 2 * W) 4 (by omega), h 3 5 (by omega), h 3 6 (by omega), cnt_congr (f := gns c2 W P Q T) (f' := gns c W P Q T) N (fun i hi => h.gnz (by omega)), cnt_congr (f := bkd c2 P Q T (c (17 + 2 * W) 4)) (f' := bkd c P Q T (c (17 + 2 * W) 4)) N (fun i hi => h.bkz (by omega))]
theorem CB.whz (h : CB c c2) (hV : OHV c N) (hN : N ≤ 16) (hW : W ≤ 5) (hP : P ≤ 5) : whys c2 N W P Q T = whys c N W P Q T := by
  unfold whys
  rw [cnt_congr (f := spk c2 W P T) (f' := spk c W P T) N (fun i hi => h.spz (by omega)), h.trz hP, cnt_congr (f := dbh c2 P N) (f' := dbh c P N) 8 (fun i hi => h.dhz hN), cnt_congr (f := lfr c2 W P) (f' := lfr c W P) N (fun i hi => h.lfz (by omega) (hV i hi).2.2.1 hW), h (17 + 2 * W) 1 (by omega), h.fez hN hW hP]
theorem CB.ohv (h : CB c c2) (hV : OHV c N) (hN : N ≤ 16) : OHV c2 N := fun k hk => by
  obtain ⟨o0, o1, o2, o3, o5⟩ := h.o (k := k) (by omega)
  rw [o0, o1, o2, o3, o5, h (29 + k) 4 (by omega), h (29 + k) 6 (by omega)]
  obtain ⟨v1, v2⟩ := hV k hk
  exact ⟨v1.fr (fun j => h _ j (by omega)), v2⟩
theorem CB.wok (h : CB c c2) (hW : W ≤ 5) (hw : WOK c W) : WOK c2 W := by
  unfold WOK at *
  rw [h (17 + 2 * W) 3 (by omega), h (17 + 2 * W) 4 (by omega), h (17 + 2 * W) 1 (by omega)]
  exact hw
theorem ASDl.frz {g g2 : cg} (hA : ASDl c g N W P) (hb : CB c c2) (hV : OHV c N) (hN : N ≤ 16) (hW : W ≤ 5) (e1 : AFR 110 c2 g2) (e2 : ∀ k j : Nat, 110 ≤ k → k ≤ 112 → g2 k j = g k j) : ASDl c2 g2 N W P := by
  obtain ⟨⟨-, ⟨a2, a3⟩, ⟨m, b1, b2, b3⟩, a4, a5, ⟨e, d1, d2, d3⟩, a7⟩, a8⟩ := hA
  have hsp : ∀ T : Nat, cnt (spk c2 W P T) N = cnt (spk c W P T) N := fun T => cnt_congr N (fun i hi => hb.spz (by omega))
  have hot : ∀ T : Nat, cnt (oth c2 W P T) N = cnt (oth c W P T) N := fun T => cnt_congr N (fun i hi => hb.otz (by omega))
  have hak : ∀ Q T : Nat, cnt (alkx c2 W P Q T) N = cnt (alkx c W P Q T) N := fun Q T => cnt_congr N (fun i hi => hb.akz (by omega))
  have hec : ∀ Q T : Nat, cnt (ech c2 W P Q T) N = cnt (ech c W P Q T) N := fun Q T => cnt_congr N (fun i hi => hb.ecz (by omega) hW)
  have hlf : cnt (lfr c2 W P) N = cnt (lfr c W P) N := cnt_congr N (fun i hi => hb.lfz (by omega) (hV i hi).2.2.1 hW)
  refine ⟨⟨e1, ⟨(e2 110 1 (by decide) (by decide)).trans a2, (e2 110 2 (by decide) (by decide)).trans a3⟩, ⟨m, (e2 110 3 (by decide) (by decide)).trans b1, b2, fun T hT => by rw [hsp]; exact b3 T hT⟩, fun T hT => by rw [hot]; exact (e2 111 T (by decide) (by decide)).trans (a4 T hT), fun Q hQ T hT => by rw [hak]; exact (e2 112 _ (by decide) (by decide)).trans (a5 Q hQ T hT), ⟨e, (e2 110 8 (by decide) (by decide)).trans d1, d2, fun Q hQ T hT => by rw [hec]; exact d3 Q hQ T hT⟩, ?_⟩, ?_⟩
  · rw [e2 110 4 (by decide) (by decide), hb.dbz hN]; exact a7
  · rw [e2 110 5 (by decide) (by decide), hlf]; exact a8
end Cb
section Lop
variable {sv : Nat → Int32} {L : Nat} {n n' : Nat} {lf lf' : dlf} {c d c' d' ca g : cg} {o o' : cg × Option cv} {np nq N W P Q T k : Nat} {r r' : Int}
theorem hind_at (hA : ASDl c ca N W P) (hb : CB c g) (he : ∀ k j : Nat, 110 ≤ k → k ≤ 112 → g k j = ca k j) (hV : OHV c N) (hw : WOK c W) (hW : W ≤ 5) (hP : P ≤ 5) (hQ : Q ≤ 4) (hT : T ≤ 7) (hN16 : N ≤ 16) (hN : c 3 9 = (N : Int)) (h : zr sv L n 94 0 lf [] g o) (h0 : lf 0 = (4, 110)) (h1 : lf 1 = (0, (Q : Int))) (h2 : lf 2 = (0, (T : Int))) : o = (g, some (0, whys c N W P Q T)) := by
  have hb2 : CB c (fun k j => if 110 ≤ k ∧ k ≤ 112 then c k j else g k j) := fun k j hk => by
    show (if 110 ≤ k ∧ k ≤ 112 then c k j else g k j) = c k j
    rw [if_neg (by omega)]
    exact hb k j hk
  have hA2 : ASDl (fun k j => if 110 ≤ k ∧ k ≤ 112 then c k j else g k j) g N W P := hA.frz hb2 hV hN16 hW (fun i j i1 i2 i3 => by
    show g i j = (if 110 ≤ i ∧ i ≤ 112 then c i j else g i j)
    rw [if_neg (by omega)]) he
  have hq := hind_okl hA2 (hb2.ohv hV hN16) (hb2.wok hW hw) hW hP hQ hT hN16 ((hb2 3 9 (by decide)).trans hN) h h0 h1 h2
  rw [hb2.whz hV hN16 hW hP] at hq
  exact hq
theorem price_at (hA : ASDl c ca N W P) (hb : CB c g) (he : ∀ k j : Nat, 110 ≤ k → k ≤ 112 → g k j = ca k j) (hV : OHV c N) (hw : WOK c W) (hW : W ≤ 5) (hP : P ≤ 5) (hQ : Q ≤ 4) (hT : T ≤ 7) (hN16 : N ≤ 16) (h : zr sv L n 96 0 lf [] g o) (h0 : lf 0 = (4, 110)) (h1 : lf 1 = (0, (Q : Int))) (h2 : lf 2 = (0, (T : Int))) : o = (g, some (0, fees c N W P Q T)) := by
  have hb2 : CB c (fun k j => if 110 ≤ k ∧ k ≤ 112 then c k j else g k j) := fun k j hk => by
    show (if 110 ≤ k ∧ k ≤ 112 then c k j else g k j) = c k j
    rw [if_neg (by omega)]
    exact hb k j hk
  have hA2 : ASDl (fun k j => if 110 ≤ k ∧ k ≤ 112 then c k j else g k j) g N W P := hA.frz hb2 hV hN16 hW (fun i j i1 i2 i3 => by
    show g i j = (if 110 ≤ i ∧ i ≤ 112 then c i j else g i j)
    rw [if_neg (by omega)]) he
  have hq := price_okl hA2 (hb2.ohv hV hN16) (hb2.wok hW hw) hW hP hQ hT hN16 h h0 h1 h2
  rw [hb2.fez hN16 hW hP] at hq
  exact hq
/-- the OATH that nothing hinders, entered by both -/
theorem ent_pr (hC : CT c d np nq N) (hG : GD c np nq N) (hb : CB c ca) (hW : W < nq) (hP : P < nq) (hQ : Q < np) (hT : T < 8) (q : whys c N W P Q T = 0) (h : zr sv L n 103 0 lf [] ca o) (h0 : lf 0 = (4, 3)) (h1 : lf 1 = (0, (W : Int))) (h2 : lf 2 = (0, (P : Int))) (h3 : lf 3 = (0, (Q : Int))) (h4 : lf 4 = (0, (T : Int))) (h5 : lf 5 = (0, fees c N W P Q T)) (h' : zr sv L n' 228 0 lf' [] d o') (h0' : lf' 0 = (4, 253)) (h1' : lf' 1 = (0, (W : Int))) (h2' : lf' 2 = (0, (P : Int))) (h3' : lf' 3 = (0, (Q : Int))) (h4' : lf' 4 = (0, (T : Int))) : ∃ cb db, N ≤ 15 ∧ o = (cb, some (0, (N : Int))) ∧ o' = (db, none) ∧ CT cb db np nq (N + 1) ∧ GD cb np nq (N + 1) ∧ (∀ k j : Nat, ¬ (k = 3 ∧ 8 ≤ j ∧ j ≤ 9) → (k < 17 ∨ 45 ≤ k) → cb k j = ca k j) ∧ (∀ i : Nat, i < 6 → cb (17 + 2 * i) 0 = c (17 + 2 * i) 0) ∧ FRCm d db := by
  obtain ⟨⟨b5, b6, hN⟩, ⟨c0, c3, c9⟩, -⟩ := id hC
  have hV := hG.hv b5 b6
  obtain ⟨n16, nsp, nfe⟩ := whys_0 q
  have sc : SCL c ca np nq N := SCL.of b5 b6 hN (fun k j k1 k2 => hb k j k2)
  have hGa := hG.mv b5 b6 sc
  have hCa := hC.mv sc (d' := d) (fun j _ => rfl)
  obtain ⟨cb, o6, hE⟩ := enter_ok hGa b5 b6 (by omega) ((hb 3 9 (by decide)).trans c9) hW hP hQ hT h h0 h1 h2 h3 h4 h5
  obtain ⟨db, o7, hM⟩ := swears_ok hC hG (by omega) hW hP hQ hT h' h0' h1' h2' h3' h4'
  have eg : ∀ i : Nat, i < N → voy ca N W P Q T i = voy c N W P Q T i := fun i hi => by
    obtain ⟨o0, o1, o2, o3, o5⟩ := hb.o (k := i) (by omega)
    unfold voy gsx msx
    rw [hb.gnz (by omega), hb.trz (by omega), hb (17 + 2 * W) 2 (by omega), o1, o2, o3, o5, hb.trz (hV i hi).2.2.1, hb 3 7 (by omega), hb 4 (ohq c i) (by omega), hb 4 Q (by omega)]
  have em : von ca N P Q T = von c N P Q T := by
    unfold von
    rw [cnt_congr (f := msx ca P Q T) (f' := msx c P Q T) N (fun i hi => by
      obtain ⟨o0, o1, o2, o3, o5⟩ := hb.o (k := i) (by omega)
      unfold msx
      rw [hb.trz (by omega), o1, o2, o3, o5, hb.trz (hV i hi).2.2.1, hb 3 7 (by omega), hb 4 (ohq c i) (by omega), hb 4 Q (by omega)])]
  have hE' : EC ca cb N W P Q T (fees c N W P Q T) (voy c N W P Q T) (von c N P Q T) := by
    obtain ⟨i1, i2, i3, i4, i5, i6, i7, i8, i9, ia, ib⟩ := hE
    refine ⟨i1, i2, i3, fun i hi => ⟨(i4 i hi).1, by rw [(i4 i hi).2, eg i hi]⟩, i5, i6, i7, i8, i9, ?_, ib⟩
    rw [← em]
    exact ia
  have fr := fees_rng (P := P) (Q := Q) (T := T) (W := W) hG hN
  refine ⟨cb, db, by omega, o6, o7, ce hCa (by omega) hW hE' hM, gde b5 b6 hGa (by omega) hW hP hQ hT ⟨fr.1, fr.2, by rw [hb _ _ (by omega)]; exact nfe⟩ (fun k hk => (hb.spz (by omega)).trans (nsp k hk)) hE', fun k j i1 i2 => hE'.1 k j i1 i2, fun i hi => ?_, fun k j i1 => hM.1 k j i1, fun j hj => hM.2.1 j (by omega) (by omega) (by omega) (by omega) (fun i hi => by omega)⟩
  rw [(hE'.2.1 i hi).1 0 (by omega)]
  exact hb _ _ (by omega)
end Lop
/-! what is left as it was while one lives -/
def LFc (c c' : cg) : Prop := (∀ k j : Nat, ¬ (k = 3 ∧ 8 ≤ j ∧ j ≤ 9) → k < 17 → c' k j = c k j) ∧ (∀ i : Nat, i < 6 → c' (17 + 2 * i) 0 = c (17 + 2 * i) 0) ∧ (c' 107 7 = c 107 7 ∧ c' 107 11 = c 107 11) ∧ (∀ j : Nat, c' 108 j = c 108 j) ∧ ∀ k j : Nat, 127 ≤ k → c' k j = c k j
def LFd (d d' : cg) : Prop := (∀ k j : Nat, k ≠ 254 → k ≠ 268 → ¬ (k = 253 ∧ j = 33) → d' k j = d k j) ∧ (∀ j : Nat, (j = 7 ∨ 260 ≤ j) → d' 254 j = d 254 j) ∧ d' 268 4 = d 268 4
def DRW (c d : cg) : Prop := ∃ dr : Nat, dr ≤ 65535 ∧ c 107 5 = (dr : Int) ∧ d 253 33 = (dr : Int)
def LST (c d c' d' : cg) (np nq : Nat) : Prop := (∃ N : Nat, CT c' d' np nq N ∧ GD c' np nq N) ∧ LFc c c' ∧ LFd d d' ∧ DRW c' d'
theorem LFd.ofz {d d' : cg} (h : FRCm d d') : LFd d d' := ⟨fun k j h1 _ _ => h.1 k j h1, h.2, h.1 268 4 (by decide)⟩
section Lo2
variable {sv : Nat → Int32} {L : Nat} {n n' : Nat} {lf lf' : dlf} {c d c' d' ca g : cg} {o o' : cg × Option cv} {np nq N W P Q T k : Nat} {r r' : Int}
/-- behind the OATH entered: the class's note, the reference's sums -/
theorem note_pr {cb db : cg} (hN15 : N ≤ 15) (hC : CT cb db np nq (N + 1)) (hG : GD cb np nq (N + 1)) (h : zr sv L n 157 0 lf [] cb (c', none)) (h0 : lf 0 = (4, 107)) (h1 : lf 1 = (0, (N : Int))) {x y : Int} (hd : d' = cup (cup db 268 1 x) 268 3 y) : (CT c' d' np nq (N + 1) ∧ GD c' np nq (N + 1)) ∧ (∀ k j : Nat, ¬ (29 ≤ k ∧ k < 45 ∧ j = 7) → ¬ (k = 107 ∧ 9 ≤ j ∧ j ≤ 10) → c' k j = cb k j) ∧ ∀ k j : Nat, ¬ (k = 268 ∧ (j = 1 ∨ j = 3)) → d' k j = db k j := by
  obtain ⟨⟨b5, b6, hN⟩, ⟨c0, c3, c9⟩, -⟩ := id hC
  rcases t_note hN15 hN c9 h h0 h1 with ⟨z, -⟩ | ⟨-, e⟩
  · exfalso; omega
  · have e := oV e
    have F : ∀ k j : Nat, ¬ (29 ≤ k ∧ k < 45 ∧ j = 7) → ¬ (k = 107 ∧ 9 ≤ j ∧ j ≤ 10) → c' k j = cb k j := fun k j i1 i2 => by rw [e, cup_ne (by omega), cup_ne (by omega), cup_ne (by omega)]
    have F' : ∀ k j : Nat, ¬ (k = 268 ∧ (j = 1 ∨ j = 3)) → d' k j = db k j := fun k j i1 => by rw [hd, cup_ne (by omega), cup_ne (by omega)]
    have sc : SCL cb c' np nq (N + 1) := ⟨fun j _ => F 3 j (by omega) (by omega), fun i _ => F 4 i (by omega) (by omega), fun i hi => ⟨fun j _ _ => F _ j (by omega) (by omega), fun t _ => F _ t (by omega) (by omega)⟩, fun k hk j hj => F _ j (by omega) (by omega)⟩
    exact ⟨⟨hC.mv sc (fun j _ => F' 254 j (by omega)), hG.mv b5 b6 sc⟩, F, F'⟩
/-- swearsBy() as far as the sums -/
theorem swb_pr {db : cg} {a : Int} (hd2 : db 254 2 = ((N + 1 : Nat) : Int)) (hN15 : N ≤ 15) {X Y : Int} (h : 0 ≤ w32 ((w32 (99 + (w32 (8 * (w32 ((db 254 2) - 1)))))) + 4) → w32 ((w32 (99 + (w32 (8 * (w32 ((db 254 2) - 1)))))) + 4) < 5208 → o = (cup (cup db 268 1 X) 268 3 (w32 (Y + (db 254 ((w32 ((w32 (99 + (w32 (8 * (w32 ((db 254 2) - 1)))))) + 4)).toNat)))), some (0, a))) : ∃ y : Int, o = (cup (cup db 268 1 X) 268 3 y, some (0, a)) := by
  have w1 : w32 (((N + 1 : Nat) : Int) - 1) = (N : Int) := by rw [w32_id (by omega) (by omega)]; omega
  have w2 : w32 (8 * (N : Int)) = ((8 * N : Nat) : Int) := by rw [w32_id (by omega) (by omega)]; omega
  have w3 : w32 (99 + ((8 * N : Nat) : Int)) = ((99 + 8 * N : Nat) : Int) := by rw [w32_id (by omega) (by omega)]; omega
  have w4 : w32 (((99 + 8 * N : Nat) : Int) + 4) = ((103 + 8 * N : Nat) : Int) := by rw [w32_id (by omega) (by omega)]; omega
  rw [hd2, w1, w2, w3, w4] at h
  exact ⟨_, h (by omega) (by omega)⟩
/-- SWEAR of the TRIALS -/
theorem swt_pr (hC : CT c d np nq N) (hG : GD c np nq N) (hD : DRW c d) (hk : k ≤ 59) (hW : W < nq) (hP : P < nq) (hQ : Q < np) (hT : T < 8) (e1 : c 10 k = (W : Int)) (e2 : c 11 k = (P : Int)) (e3 : c 12 k = (Q : Int)) (e4 : c 13 k = (T : Int)) (h : zr sv L n 158 0 lf [] c (c', none)) (h0 : lf 0 = (4, 107)) (h1 : lf 1 = (0, (k : Int))) (h' : zr sv L n' 254 0 lf' [] d (d', some (0, r'))) (h0' : lf' 0 = (4, 253)) (h1' : lf' 1 = (0, (W : Int))) (h2' : lf' 2 = (0, (P : Int))) (h3' : lf' 3 = (0, (Q : Int))) (h4' : lf' 4 = (0, (T : Int))) : LST c d c' d' np nq := by
  obtain ⟨⟨b5, b6, hN⟩, ⟨c0, c3, c9⟩, ⟨d0, d1, d2⟩, ⟨t3, t4, t5, t6⟩, -, hS, -⟩ := id hC
  have hV := hG.hv b5 b6
  have hR := hC.hr hG
  have hw := (hG.2.2.1 W hW).wok
  obtain ⟨dr, dr1, dr2, dr3⟩ := hD
  obtain ⟨g1, k1, g2, r2, k2, h⟩ := t_swt hk (by omega) (by omega) (by omega) (by omega) e2 e3 e4 e1 h h0 h1
  obtain ⟨ca, o1, hA⟩ := ask_okl (nq := nq) (by omega) (by omega) hN c9 hV hW hG.fr6 k1 rfl rfl rfl
  have x1 := oV o1
  rw [x1] at k2
  have FA : ∀ k j : Nat, ¬ (110 ≤ k ∧ k ≤ 112) → ca k j = c k j := fun k j hk => hA.1.1 k j (by omega) (by omega) (by omega)
  have hb : CB c ca := fun k j hk => FA k j (by omega)
  obtain ⟨y1, y2⟩ := oI (hind_at hA hb (fun _ _ _ _ => rfl) hV hw (by omega) (by omega) (by omega) (by omega) hN c9 k2 rfl rfl rfl)
  rw [y1, y2] at h
  obtain ⟨g7, r7, q1, h'⟩ := m_swb (by omega) (by omega) (by omega) (by omega) h' h0' h1' h2' h3' h4'
  obtain ⟨v1, v2⟩ := oI (m_why_ok (nq := nq) (by omega) (by omega) (by omega) (by omega) hN d2 hV hR hG.2.2.2.2 hS hW hP (fun k hk => ((hG.2.2.2.1 k hk).v b5 b6).2.2.1) ⟨t3, t4⟩ q1 rfl rfl rfl rfl rfl)
  rw [v1, v2] at h'
  have w0 := whys_n (c := c) (N := N) (P := P) (Q := Q) (T := T) (W := W)
  rcases h with ⟨q, g3, r3, k3, g4, r4, k4, g5, k5, o⟩ | ⟨q, o⟩
  · rcases h' with ⟨q', g8, k8, o'⟩ | ⟨q', -⟩
    · obtain ⟨s1, s2⟩ := oI (price_at hA hb (fun _ _ _ _ => rfl) hV hw (by omega) (by omega) (by omega) (by omega) hN k3 rfl rfl rfl)
      rw [s1, s2, hA.1.2.1.1, hA.1.2.1.2] at k4
      obtain ⟨cb, db, n15, z1, z2, z3, z4, z5, z6, z7⟩ := ent_pr hC hG hb hW hP hQ hT q k4 rfl rfl rfl rfl rfl rfl k8 rfl rfl rfl rfl rfl
      obtain ⟨s3, s4⟩ := oI z1
      have s5 := oV z2
      rw [s3, s4] at k5
      rw [s5] at o'
      obtain ⟨y, o'⟩ := swb_pr z3.2.2.1.2.2 n15 o'
      obtain ⟨u3, u4⟩ := oI o'
      have u1 := oV o
      rw [← u1] at k5
      obtain ⟨f1, f2, f3⟩ := note_pr n15 z3 z4 k5 rfl rfl u3
      have F : ∀ k j : Nat, ¬ (29 ≤ k ∧ k < 45 ∧ j = 7) → ¬ (k = 107 ∧ 9 ≤ j ∧ j ≤ 10) → ¬ (k = 3 ∧ 8 ≤ j ∧ j ≤ 9) → (k < 17 ∨ 45 ≤ k) → ¬ (110 ≤ k ∧ k ≤ 112) → c' k j = c k j := fun k j i1 i2 i3 i4 i5 => by rw [f2 k j i1 i2, z5 k j i3 i4, FA k j i5]
      refine ⟨⟨N + 1, f1⟩, ⟨fun k j i1 i2 => F k j (by omega) (by omega) i1 (by omega) (by omega), fun i hi => by rw [f2 _ _ (by omega) (by omega)]; exact z6 i hi, ⟨F _ _ (by omega) (by omega) (by omega) (by omega) (by omega), F _ _ (by omega) (by omega) (by omega) (by omega) (by omega)⟩, fun j => F _ _ (by omega) (by omega) (by omega) (by omega) (by omega), fun k j hk => F _ _ (by omega) (by omega) (by omega) (by omega) (by omega)⟩, ⟨fun k j i1 i2 i3 => by rw [f3 k j (by omega)]; exact z7.1 k j i1, fun j hj => by rw [f3 _ _ (by omega)]; exact z7.2 j hj, by rw [f3 _ _ (by omega)]; exact z7.1 _ _ (by omega)⟩, dr, dr1, by rw [F _ _ (by omega) (by omega) (by omega) (by omega) (by omega)]; exact dr2, by rw [f3 _ _ (by omega), z7.1 _ _ (by omega)]; exact dr3⟩
    · exfalso; omega
  · rcases h' with ⟨q', -⟩ | ⟨q', o'⟩
    · exfalso; omega
    · have u1 := oV o
      obtain ⟨u3, u4⟩ := oI o'
      have F : ∀ k j : Nat, ¬ (k = 107 ∧ j = 8) → ¬ (110 ≤ k ∧ k ≤ 112) → c' k j = c k j := fun k j i1 i2 => by rw [u1, cup_ne i1, FA k j i2]
      have sc : SCL c c' np nq N := SCL.of b5 b6 hN (fun k j k1 k2 => F k j (by omega) (by omega))
      refine ⟨⟨N, hC.mv sc (fun j _ => by rw [u3]), hG.mv b5 b6 sc⟩, ⟨fun k j i1 i2 => F k j (by omega) (by omega), fun i hi => F _ _ (by omega) (by omega), ⟨F _ _ (by omega) (by omega), F _ _ (by omega) (by omega)⟩, fun j => F _ _ (by omega) (by omega), fun k j hk => F _ _ (by omega) (by omega)⟩, ⟨fun k j _ _ _ => by rw [u3], fun j _ => by rw [u3], by rw [u3]⟩, dr, dr1, by rw [F _ _ (by omega) (by omega)]; exact dr2, by rw [u3]; exact dr3⟩
/-- RECANT of the TRIALS: the latest -/
theorem lat_pr (hV : OHV c N) (hR : OHR c d N) (hN : N ≤ 16) (hW : W ≤ 5) : ∀ (k : Nat) {n n' : Nat} {lf lf' : dlf}, k ≤ N → lf 0 = (4, 3) → lf 1 = (0, (W : Int)) → lf 2 = (0, (k : Int) - 1) → zr sv L n 154 7 lf [] c (c', some (0, r)) → lf' 0 = (4, 253) → lf' 1 = (0, (W : Int)) → lf' 2 = (0, (k : Int) - 1) → zr sv L n' 255 9 lf' [] d (d', some (0, r')) → c' = c ∧ ((∃ i : Nat, i < N ∧ ohs c i = 0 ∧ r = (i : Int) ∧ d' = cup d 254 (104 + 8 * i) 2) ∨ (r = -1 ∧ d' = d))
  | 0, n, n', lf, lf', _, h0, h1, h2, h, h0', h1', h2', h' => by
    cases n with
    | zero => exact (zr_0 h).elim
    | succ n => cases n' with
      | zero => exact (zr_0 h').elim
      | succ n' =>
        obtain ⟨u1, u2⟩ := oI (t_lat_e hW h h0 h1 h2)
        obtain ⟨v1, v2⟩ := oI (m_rcs_e hW h' h0' h1' h2')
        exact ⟨u1, Or.inr ⟨u2, v1⟩⟩
  | k + 1, n, n', lf, lf', hk, h0, h1, h2, h, h0', h1', h2', h' => by
    cases n with
    | zero => exact (zr_0 h).elim
    | succ n => cases n' with
      | zero => exact (zr_0 h').elim
      | succ n' =>
        obtain ⟨v1, v2, v3, v4, v5⟩ := hV k (by omega)
        have e : ((k + 1 : Nat) : Int) - 1 = (k : Int) := by omega
        rw [e] at h2 h2'
        rcases t_lat_s hW v2 v3 v4 v5 (by omega) v1 h h0 h1 h2 with ⟨z, lf1, y0, y1, y2, h⟩ | ⟨z, o⟩
        · rcases m_rcs_s hW v2 v3 v4 v5 (by omega) (hR k (by omega)) h' h0' h1' h2' with ⟨z', lf2, x0, x1, x2, h'⟩ | ⟨z', -⟩
          · exact lat_pr hV hR hN hW k (by omega) y0 y1 y2 h x0 x1 x2 h'
          · exfalso; omega
        · rcases m_rcs_s hW v2 v3 v4 v5 (by omega) (hR k (by omega)) h' h0' h1' h2' with ⟨z', -⟩ | ⟨z', o'⟩
          · exfalso; omega
          · obtain ⟨u1, u2⟩ := oI o
            obtain ⟨w1, w2⟩ := oI o'
            exact ⟨u1, Or.inl ⟨k, by omega, z.2, u2, w1⟩⟩
theorem rcl_pr (hC : CT c d np nq N) (hG : GD c np nq N) (hD : DRW c d) (hW : W < nq) (h : zr sv L n 153 0 lf [] c (c', none)) (h0 : lf 0 = (4, 107)) (h1 : lf 1 = (0, (W : Int))) (h' : zr sv L n' 255 0 lf' [] d (d', some (0, r'))) (h0' : lf' 0 = (4, 253)) (h1' : lf' 1 = (0, (W : Int))) : LST c d c' d' np nq := by
  obtain ⟨⟨b5, b6, hN⟩, ⟨c0, c3, c9⟩, ⟨d0, d1, d2⟩, -⟩ := id hC
  have hV := hG.hv b5 b6
  have hR := hC.hr hG
  obtain ⟨dr, dr1, dr2, dr3⟩ := hD
  obtain ⟨g1, r1, k1, h⟩ := t_rcl (by omega) h h0 h1
  obtain ⟨lf1, y0, y1, y2, k1⟩ := t_lat0 (by omega) hN c9 k1 rfl rfl
  obtain ⟨lf2, x0, x1, x2, h'⟩ := m_rcs0 (by omega) hN d2 h' h0' h1'
  obtain ⟨e1, e2⟩ := lat_pr hV hR hN (by omega) N (Nat.le_refl N) y0 y1 y2 k1 x0 x1 x2 h'
  rw [e1, c9] at h
  rcases e2 with ⟨i, i1, i2, i3, i4⟩ | ⟨i3, i4⟩
  · rcases h with ⟨z, -⟩ | ⟨-, lf3, w0, w2, h⟩
    · exfalso; omega
    · rw [i3] at w2
      have u1 := oV (t_rcl20 (by omega) h w0 w2)
      have F : ∀ k j : Nat, ¬ (29 ≤ k ∧ k < 45) → c' k j = c k j := fun k j i1 => by rw [u1, cup_ne (by omega)]
      have q := hC.oset (k := i) (j := 5) (by omega) (by decide) 2
      rw [show 99 + 8 * i + 5 = 104 + 8 * i by omega, ← u1, ← i4] at q
      have q2 := hG.ost b5 b6 hN i1 (Or.inr rfl)
      rw [← u1] at q2
      exact ⟨⟨N, q, q2⟩, ⟨fun k j _ k2 => F k j (by omega), fun i hi => F _ _ (by omega), ⟨F _ _ (by omega), F _ _ (by omega)⟩, fun j => F _ _ (by omega), fun k j hk => F _ _ (by omega)⟩, ⟨fun k j k1 _ _ => by rw [i4, cup_ne (by omega)], fun j hj => by rw [i4, cup_ne (by omega)], by rw [i4, cup_ne (by omega)]⟩, dr, dr1, by rw [F _ _ (by omega)]; exact dr2, by rw [i4, cup_ne (by omega)]; exact dr3⟩
  · rcases h with ⟨-, o⟩ | ⟨z, -⟩
    · have u1 := oV o
      have F : ∀ k j : Nat, ¬ (k = 107 ∧ j = 8) → c' k j = c k j := fun k j k1 => by rw [u1, cup_ne k1]
      have sc : SCL c c' np nq N := SCL.of b5 b6 hN (fun k j k1 k2 => F k j (by omega))
      exact ⟨⟨N, hC.mv sc (fun j _ => by rw [i4]), hG.mv b5 b6 sc⟩, ⟨fun k j _ k2 => F k j (by omega), fun i hi => F _ _ (by omega), ⟨F _ _ (by omega), F _ _ (by omega)⟩, fun j => F _ _ (by omega), fun k j hk => F _ _ (by omega)⟩, ⟨fun k j _ _ _ => by rw [i4], fun j _ => by rw [i4], by rw [i4]⟩, dr, dr1, by rw [F _ _ (by omega)]; exact dr2, by rw [i4]; exact dr3⟩
    · exfalso; omega
/-- FIND of the TRIALS -/
theorem fnl_pr (hC : CT c d np nq N) (hG : GD c np nq N) (hD : DRW c d) (hP : P < nq) (hQ : Q < np) (hT : T < 8) (h : zr sv L n 104 0 lf [] c (c', some (0, r))) (h0 : lf 0 = (4, 3)) (h1 : lf 1 = (0, (P : Int))) (h2 : lf 2 = (0, (Q : Int))) (h3 : lf 3 = (0, (T : Int))) (h' : zr sv L n' 234 0 lf' [] d (d', some (0, r'))) (h0' : lf' 0 = (4, 253)) (h1' : lf' 1 = (0, (P : Int))) (h2' : lf' 2 = (0, (Q : Int))) (h3' : lf' 3 = (0, (T : Int))) : LST c d c' d' np nq := by
  obtain ⟨dr, dr1, dr2, dr3⟩ := hD
  obtain ⟨-, -, e3, e4, e5, e6⟩ := find_pr hP hQ hT hC hG h h0 h1 h2 h3 h' h0' h1' h2' h3'
  exact ⟨⟨N, e3, e4⟩, ⟨fun k j i1 i2 => e5.1 k j i1 (by omega), e5.2, ⟨e5.1 _ _ (by omega) (by omega), e5.1 _ _ (by omega) (by omega)⟩, fun j => e5.1 _ _ (by omega) (by omega), fun k j hk => e5.1 _ _ (by omega) (by omega)⟩, LFd.ofz e6, dr, dr1, by rw [e5.1 _ _ (by omega) (by omega)]; exact dr2, by rw [e6.1 _ _ (by omega)]; exact dr3⟩
end Lo2
end
section
/-! SWEAR any: what can be said, drawn, on both sides -/
theorem cnt_mono {f : Nat → Bool} {a : Nat} : ∀ {b : Nat}, a ≤ b → cnt f a ≤ cnt f b
  | 0, h => by rw [show a = 0 by omega]; exact Nat.le_refl _
  | b + 1, h => by
    by_cases e : a = b + 1
    · rw [e]; exact Nat.le_refl _
    · have h1 := cnt_mono (f := f) (b := b) (show a ≤ b by omega)
      show cnt f a ≤ cnt f b + (f b).toNat
      omega
theorem posd {np t q : Nat} (h : q < np) : (np * t + q) % np = q ∧ (np * t + q) / np = t := by
  rw [Nat.mul_add_mod, Nat.mod_eq_of_lt h, Nat.mul_add_div (by omega), Nat.div_eq_of_lt h]
  exact ⟨rfl, rfl⟩
def sy (c : cg) (np N W P x : Nat) : Bool := decide (whys c N W P (x % np) (x / np) = 0)
theorem sy_at {c : cg} {np N W P t q : Nat} (h : q < np) : sy c np N W P (np * t + q) = decide (whys c N W P q t = 0) := by
  unfold sy
  rw [(posd h).1, (posd h).2]
def SYI (c ca g : cg) (np N W P X m : Nat) : Prop := m = cnt (sy c np N W P) X ∧ (∀ k j : Nat, k ≠ 109 → g k j = ca k j) ∧ ∀ x : Nat, x < X → sy c np N W P x = true → g 109 (cnt (sy c np N W P) x) = ((x % np : Nat) : Int) + 5 * ((x / np : Nat) : Int)
theorem mul_t {np t : Nat} (h5 : np ≤ 5) (ht : t ≤ 8) : np * t ≤ 40 := Nat.mul_le_mul h5 ht
theorem mul_s (np t : Nat) : np * (t + 1) = np * t + np := Nat.mul_succ np t
theorem mul_q {np t q : Nat} (h5 : np ≤ 5) (ht : t < 8) (hq : q < np) : np * t + q < 40 := by
  have := mul_t (t := t + 1) h5 ht
  rw [mul_s] at this
  omega
section Any
variable {sv : Nat → Int32} {L : Nat} {n n' : Nat} {lf lf' : dlf} {c d c' d' ca g : cg} {o o' : cg × Option cv} {np nq N W P Q T k : Nat} {r r' : Int}
/-- the class: all that can be said, in order -/
theorem swy_l (hA : ASDl c ca N W P) (hb : CB c ca) (hV : OHV c N) (hw : WOK c W) (h5 : np ≤ 5) (hW : W ≤ 5) (hP : P ≤ 5) (hN16 : N ≤ 16) (hN : c 3 9 = (N : Int)) (h3 : c 3 0 = (np : Int)) (h : zr sv L n 155 29 lf [] ca o) (h0 : lf 0 = (4, 107)) (h2 : lf 2 = (0, 0)) (ht : lf 3 = (0, 0)) : ∃ (n1 : Nat) (lf1 : dlf) (g : cg) (m : Nat), lf1 0 = (4, 107) ∧ lf1 2 = (0, (m : Int)) ∧ lf1 3 = (0, 8) ∧ SYI c ca g np N W P (np * 8) m ∧ zr sv L (n1 + 1) 155 29 lf1 [] g o := by
  refine zloop (fun t lf g => t ≤ 8 ∧ ∃ m : Nat, lf 0 = (4, 107) ∧ lf 2 = (0, (m : Int)) ∧ lf 3 = (0, (t : Int)) ∧ SYI c ca g np N W P (np * t) m) _ ?_ n 0 lf ca ⟨by omega, 0, h0, h2, ht, rfl, fun _ _ _ => rfl, fun x hx => absurd hx (by rw [Nat.mul_zero]; exact Nat.not_lt_zero x)⟩ h
  intro n t lf g ⟨ht8, m, b0, b2, b3, hS⟩ h
  have hX := mul_t h5 ht8
  have hm : m ≤ 40 := by
    have := cnt_le (f := sy c np N W P) (np * t)
    rw [hS.1]; omega
  by_cases hlt : t < 8
  · obtain ⟨lf2, y0, y2, y3, y4, h⟩ := t_swy29s hm (by omega) h b0 b2 b3
    refine Or.inr (zloop2 (fun q lf g => q ≤ np ∧ ∃ m : Nat, lf 0 = (4, 107) ∧ lf 2 = (0, (m : Int)) ∧ lf 3 = (0, (t : Int)) ∧ lf 4 = (0, (q : Int)) ∧ SYI c ca g np N W P (np * t + q) m) (fun n => ∃ lf' g', (t + 1 ≤ 8 ∧ ∃ m : Nat, lf' 0 = (4, 107) ∧ lf' 2 = (0, (m : Int)) ∧ lf' 3 = (0, ((t + 1 : Nat) : Int)) ∧ SYI c ca g' np N W P (np * (t + 1)) m) ∧ zr sv L n 155 29 lf' [] g' o) ?_ ?_ n 0 lf2 g ⟨by omega, m, y0, y2, y3, y4, hS⟩ h)
    · intro n ⟨lf', g', a, b⟩
      exact ⟨lf', g', a, zr_m b⟩
    · intro n q lf g ⟨hq, m, d0, d2, d3, d4, hS⟩ h
      obtain ⟨s1, s2, s3⟩ := id hS
      have g3 : g 3 0 = (np : Int) := by rw [s2 3 0 (by decide), hb 3 0 (by decide)]; exact h3
      have hmm : m ≤ np * t + q := by rw [s1]; exact cnt_le _
      by_cases hlq : q < np
      · have hXq := mul_q h5 hlt hlq
        obtain ⟨g1, r1, k1, h⟩ := t_swy38s (by omega) (by omega) (by omega) h5 g3 hlq h d0 d2 d3 d4
        obtain ⟨u1, u2⟩ := oI (hind_at hA (fun k j hk => by rw [s2 k j (by omega)]; exact hb k j hk) (fun k j k1 k2 => s2 k j (by omega)) hV hw hW hP (by omega) (by omega) hN16 hN k1 rfl rfl rfl)
        rw [u1, u2] at h
        rcases h with ⟨z, lf3, w0, w2, w3, w4, h⟩ | ⟨z, lf3, w0, w2, w3, w4, h⟩
        · have hf : sy c np N W P (np * t + q) = false := by rw [sy_at hlq]; exact decide_eq_false z
          refine Or.inr ⟨lf3, g, ⟨hlq, m, w0, w2, w3, by rw [w4]; exact congrArg _ (Int.add_comm _ _), ?_, s2, fun x hx hx2 => ?_⟩, h⟩
          · rw [show np * t + (q + 1) = np * t + q + 1 from rfl, cnt_n hf]; exact s1
          · by_cases e : x = np * t + q
            · rw [e, hf] at hx2; cases hx2
            · exact s3 x (by omega) hx2
        · have hf : sy c np N W P (np * t + q) = true := by rw [sy_at hlq]; exact decide_eq_true z
          refine Or.inr ⟨lf3, _, ⟨hlq, m + 1, w0, by rw [w2]; exact congrArg _ (Int.add_comm _ _), w3, by rw [w4]; exact congrArg _ (Int.add_comm _ _), ?_, fun k j hk => by rw [cup_ne (by omega)]; exact s2 k j hk, fun x hx hx2 => ?_⟩, h⟩
          · rw [show np * t + (q + 1) = np * t + q + 1 from rfl, cnt_s hf, s1]
          · by_cases e : x = np * t + q
            · rw [e, ← s1, cup_at, (posd hlq).1, (posd hlq).2]
            · have l1 := cnt_mono (f := sy c np N W P) (show x + 1 ≤ np * t + q by omega)
              rw [cnt_s hx2] at l1
              rw [cup_ne (by omega)]
              exact s3 x (by omega) hx2
      · have eq : q = np := by omega
        subst eq
        have hX2 := mul_t (t := t + 1) h5 hlt
        rw [mul_s] at hX2
        obtain ⟨lf3, w0, w2, w3, h⟩ := t_swy38e (by omega) (by omega) (by omega) h5 g3 (Nat.le_refl _) h d0 d2 d3 d4
        exact Or.inl ⟨lf3, g, ⟨by omega, m, w0, w2, by rw [w3]; exact congrArg _ (Int.add_comm _ _), by rw [mul_s]; exact hS⟩, h⟩
  · have et : t = 8 := by omega
    subst et
    exact Or.inl ⟨n, lf, g, m, b0, b2, b3, hS, h⟩
/-- the reference: how many -/
theorem m_sbl_ok (h5 : np ≤ 5) (h6 : nq ≤ 6) (hN16 : N ≤ 16) (hN : d 254 2 = (N : Int)) (hp : d 254 0 = (np : Int)) (hV : OHV c N) (hR : OHR c d N) (hU : UQ c N) (hS : PRS c d nq) (hW : W < nq) (hP : P < nq) (hO : ∀ k : Nat, k < N → ohp c k < nq) (hs : RTS c d) (h : zr sv L n 242 0 lf [] d o) (h0 : lf 0 = (4, 253)) (h1 : lf 1 = (0, (W : Int))) (h2 : lf 2 = (0, (P : Int))) : o = (d, some (0, (cnt (sy c np N W P) (np * 8) : Int))) := by
  obtain ⟨lf1, a0, a1, a2, a3, a4, h⟩ := m_sbl0 (by omega) (by omega) h h0 h1 h2
  refine zloop (fun t lf g => g = d ∧ t ≤ 8 ∧ lf 0 = (4, 253) ∧ lf 1 = (0, (W : Int)) ∧ lf 2 = (0, (P : Int)) ∧ lf 3 = (0, (cnt (sy c np N W P) (np * t) : Int)) ∧ lf 4 = (0, (t : Int))) _ ?_ n 0 lf1 d ⟨rfl, by omega, a0, a1, a2, a3, a4⟩ h
  intro n t lf g ⟨e, ht8, b0, b1, b2, b3, b4⟩ hzt
  subst e
  have h := hzt
  have hX := mul_t h5 ht8
  have hm := cnt_le (f := sy c np N W P) (np * t)
  by_cases hlt : t < 8
  · obtain ⟨lf2, y0, y1, y2, y3, y4, y5, h⟩ := m_sbl5s (by omega) (by omega) (by omega) (by omega) h b0 b1 b2 b3 b4
    refine Or.inr (zloop2 (fun q lf g' => g' = g ∧ q ≤ np ∧ lf 0 = (4, 253) ∧ lf 1 = (0, (W : Int)) ∧ lf 2 = (0, (P : Int)) ∧ lf 3 = (0, (cnt (sy c np N W P) (np * t + q) : Int)) ∧ lf 4 = (0, (t : Int)) ∧ lf 5 = (0, (q : Int))) (fun n => ∃ lf' g', (g' = g ∧ t + 1 ≤ 8 ∧ lf' 0 = (4, 253) ∧ lf' 1 = (0, (W : Int)) ∧ lf' 2 = (0, (P : Int)) ∧ lf' 3 = (0, (cnt (sy c np N W P) (np * (t + 1)) : Int)) ∧ lf' 4 = (0, ((t + 1 : Nat) : Int))) ∧ zr sv L n 242 5 lf' [] g' o) ?_ ?_ n 0 lf2 g ⟨rfl, by omega, y0, y1, y2, y3, y4, y5⟩ h)
    · intro n ⟨lf', g', a, b⟩
      exact ⟨lf', g', a, zr_m b⟩
    · intro n q lf g' ⟨e, hq, d0, d1, d2, d3, d4, d5⟩ hzq
      subst e
      have h := hzq
      have hmq := cnt_le (f := sy c np N W P) (np * t + q)
      by_cases hlq : q < np
      · have hXq := mul_q h5 hlt hlq
        obtain ⟨g1, r1, k1, h⟩ := m_sbl15s (by omega) (by omega) (by omega) (by omega) (by omega) h5 hp hlq h d0 d1 d2 d3 d4 d5
        obtain ⟨v1, v2⟩ := oI (m_why_ok (nq := nq) (by omega) (by omega) (by omega) (by omega) hN16 hN hV hR hU hS hW hP hO hs k1 rfl rfl rfl rfl rfl)
        rw [v1, v2] at h
        rcases h with ⟨z, lf3, w0, w1, w2, w3, w4, w5, h⟩ | ⟨z, lf3, w0, w1, w2, w3, w4, w5, h⟩
        · have hf : sy c np N W P (np * t + q) = false := by rw [sy_at hlq]; exact decide_eq_false z
          exact Or.inr ⟨lf3, _, ⟨rfl, hlq, w0, w1, w2, by rw [w3, show np * t + (q + 1) = np * t + q + 1 from rfl, cnt_n hf], w4, by rw [w5]; exact congrArg _ (Int.add_comm _ _)⟩, h⟩
        · have hf : sy c np N W P (np * t + q) = true := by rw [sy_at hlq]; exact decide_eq_true z
          exact Or.inr ⟨lf3, _, ⟨rfl, hlq, w0, w1, w2, by rw [w3, show np * t + (q + 1) = np * t + q + 1 from rfl, cnt_s hf]; exact congrArg _ (Int.add_comm _ _), w4, by rw [w5]; exact congrArg _ (Int.add_comm _ _)⟩, h⟩
      · have eq : q = np := by omega
        subst eq
        have hX2 := mul_t (t := t + 1) h5 hlt
        rw [mul_s] at hX2
        obtain ⟨lf3, w0, w1, w2, w3, w4, h⟩ := m_sbl15e (by omega) (by omega) (by omega) (by omega) (by omega) h5 hp (Nat.le_refl _) h d0 d1 d2 d3 d4 d5
        exact Or.inl ⟨lf3, _, ⟨rfl, by omega, w0, w1, w2, by rw [mul_s]; exact w3, by rw [w4]; exact congrArg _ (Int.add_comm _ _)⟩, h⟩
  · have et : t = 8 := by omega
    subst et
    exact Or.inl (m_sbl5e (by omega) h b0 b3 b4)
/-- the reference: the one drawn -/
theorem m_swa_ok {j : Nat} (h5 : np ≤ 5) (h6 : nq ≤ 6) (hN16 : N ≤ 16) (hN : d 254 2 = (N : Int)) (hp : d 254 0 = (np : Int)) (hV : OHV c N) (hR : OHR c d N) (hU : UQ c N) (hS : PRS c d nq) (hW : W < nq) (hP : P < nq) (hO : ∀ k : Nat, k < N → ohp c k < nq) (hs : RTS c d) (hj : j < cnt (sy c np N W P) (np * 8)) (h : zr sv L n 252 23 lf [] d o) (h0 : lf 0 = (4, 253)) (h1 : lf 1 = (0, (W : Int))) (h2 : lf 2 = (0, (P : Int))) (h4 : lf 4 = (0, (j : Int))) (hk : lf 5 = (0, 0)) : ∃ x : Nat, x < np * 8 ∧ sy c np N W P x = true ∧ cnt (sy c np N W P) x = j ∧ ∃ (n1 : Nat) (g2 : cg) (r2 : Int), zr sv L n1 254 0 (darg 0 [(4, 253), (0, (W : Int)), (0, (P : Int)), (0, ((x % np : Nat) : Int)), (0, ((x / np : Nat) : Int))]) [] d (g2, some (0, r2)) ∧ o = (g2, some (0, r2)) := by
  have hX := mul_t h5 (Nat.le_refl 8)
  have hj40 := cnt_le (f := sy c np N W P) (np * 8)
  refine zloop (fun k lf g => g = d ∧ k ≤ np * 8 ∧ ∃ l : Nat, cnt (sy c np N W P) k + l = j ∧ lf 0 = (4, 253) ∧ lf 1 = (0, (W : Int)) ∧ lf 2 = (0, (P : Int)) ∧ lf 4 = (0, (l : Int)) ∧ lf 5 = (0, (k : Int))) _ ?_ n 0 lf d ⟨rfl, by omega, j, Nat.zero_add j, h0, h1, h2, h4, hk⟩ h
  intro n k lf g ⟨e, hk, l, hl, b0, b1, b2, b4, b5⟩ hzk
  subst e
  have h := hzk
  by_cases hlt : k < np * 8
  · have hn0 : 0 < np := by
      by_cases q : np = 0
      · rw [q, Nat.zero_mul] at hlt; omega
      · omega
    have hq := Nat.mod_lt k hn0
    have ht : k / np < 8 := Nat.div_lt_of_lt_mul hlt
    obtain ⟨g1, r1, k1, h⟩ := m_swa23s (by omega) (by omega) (by omega) (by omega) h5 hp (by omega) h b0 b1 b2 b4 b5
    rw [qre_n (by omega) hn0 (by omega), qdi_n (by omega) hn0 (by omega)] at k1 h
    obtain ⟨v1, v2⟩ := oI (m_why_ok (nq := nq) (by omega) (by omega) (by omega) (by omega) hN16 hN hV hR hU hS hW hP hO hs k1 rfl rfl rfl rfl rfl)
    rw [v1, v2] at h
    have w0 := whys_n (c := c) (N := N) (P := P) (Q := k % np) (T := k / np) (W := W)
    rcases h with ⟨⟨z, z2⟩, lf3, w0, w1, w2, w4, w5, h⟩ | ⟨⟨z, z2⟩, g2, r2, k2, o⟩ | ⟨z, lf3, w0, w1, w2, w4, w5, h⟩
    · have hf : sy c np N W P k = true := decide_eq_true (by omega)
      refine Or.inr ⟨lf3, _, ⟨rfl, hlt, l - 1, by rw [cnt_s hf]; omega, w0, w1, w2, by rw [w4]; exact congrArg _ (by omega), by rw [w5]; exact congrArg _ (Int.add_comm _ _)⟩, h⟩
    · have hf : sy c np N W P k = true := decide_eq_true (by omega)
      exact Or.inl ⟨k, hlt, hf, by omega, n, g2, r2, k2, o⟩
    · have hf : sy c np N W P k = false := decide_eq_false (by omega)
      exact Or.inr ⟨lf3, _, ⟨rfl, hlt, l, by rw [cnt_n hf]; exact hl, w0, w1, w2, w4, by rw [w5]; exact congrArg _ (Int.add_comm _ _)⟩, h⟩
  · have ek : k = np * 8 := by omega
    subst ek
    exfalso; omega
/-- SWEAR any of the TRIALS -/
theorem swy_pr (hC : CT c d np nq N) (hG : GD c np nq N) (hD : DRW c d) (hk : k ≤ 59) (hW : W < nq) (hP : P < nq) (e1 : c 10 k = (W : Int)) (e2 : c 11 k = (P : Int)) (h : zr sv L n 155 0 lf [] c (c', none)) (h0 : lf 0 = (4, 107)) (h1 : lf 1 = (0, (k : Int))) (h' : zr sv L n' 252 0 lf' [] d (d', some (0, r'))) (h0' : lf' 0 = (4, 253)) (h1' : lf' 1 = (0, (W : Int))) (h2' : lf' 2 = (0, (P : Int))) : LST c d c' d' np nq := by
  obtain ⟨⟨b5, b6, hN⟩, ⟨c0, c3, c9⟩, ⟨d0, d1, d2⟩, ⟨t3, t4, t5, t6⟩, -, hS, -⟩ := id hC
  have hV := hG.hv b5 b6
  have hR := hC.hr hG
  have hw := (hG.2.2.1 W hW).wok
  have hO : ∀ k : Nat, k < N → ohp c k < nq := fun k hk => ((hG.2.2.2.1 k hk).v b5 b6).2.2.1
  obtain ⟨dr, dr1, dr2, dr3⟩ := hD
  obtain ⟨g1, k1, lf1, y0, y2, y3, h⟩ := t_swy0 hk (by omega) (by omega) e2 e1 h h0 h1
  obtain ⟨ca, o1, hA⟩ := ask_okl (nq := nq) (by omega) (by omega) hN c9 hV hW hG.fr6 k1 rfl rfl rfl
  have x1 := oV o1
  rw [x1] at h
  have FA : ∀ k j : Nat, ¬ (110 ≤ k ∧ k ≤ 112) → ca k j = c k j := fun k j hk => hA.1.1 k j (by omega) (by omega) (by omega)
  have hb : CB c ca := fun k j hk => FA k j (by omega)
  obtain ⟨n1, lf2, g, m, z0, z2, z3, ⟨s1, s2, s3⟩, h⟩ := swy_l hA hb hV hw b5 (by omega) (by omega) hN c9 c0 h y0 y2 y3
  have hX := mul_t b5 (Nat.le_refl 8)
  have hm : m ≤ 40 := by
    have := cnt_le (f := sy c np N W P) (np * 8)
    rw [s1]; omega
  have FG : ∀ k j : Nat, k ≠ 109 → ¬ (110 ≤ k ∧ k ≤ 112) → g k j = c k j := fun k j i1 i2 => by rw [s2 k j i1, FA k j i2]
  obtain ⟨q1, r1, q2, h'⟩ := m_swa0 (by omega) (by omega) h' h0' h1' h2'
  obtain ⟨v1, v2⟩ := oI (m_sbl_ok b5 b6 hN d2 d0 hV hR hG.2.2.2.2 hS hW hP hO ⟨t3, t4⟩ q2 rfl rfl rfl)
  rw [v1, v2, ← s1] at h'
  rcases t_swy29e hm h z0 z2 z3 with ⟨z, g3, r3, k3, h⟩ | ⟨z, o⟩
  · rcases h' with ⟨-, g4, r4, k4, lf3, x0, x1, x2, x4, x5, h'⟩ | ⟨z', -⟩
    · have dg : g 107 5 = (dr : Int) := by rw [FG _ _ (by omega) (by omega)]; exact dr2
      have em : (11149 + 2953 * (dr : Int)) = ((11149 + 2953 * dr : Nat) : Int) := by omega
      have hD0 : (11149 + 2953 * dr) % 65536 < 65536 := Nat.mod_lt _ (by decide)
      have hD1 : qre (11149 + 2953 * (dr : Int)) 65536 = (((11149 + 2953 * dr) % 65536 : Nat) : Int) := by
        rw [em]; exact qre_n (b := 65536) (by omega) (by decide) (by decide)
      generalize (11149 + 2953 * dr) % 65536 = D at hD0 hD1
      have hD2 : qdi (D : Int) 8 = ((D / 8 : Nat) : Int) := qdi_n (b := 8) (by omega) (by decide) (by decide)
      have hD3 : qre ((D / 8 : Nat) : Int) (m : Int) = ((D / 8 % m : Nat) : Int) := qre_n (by omega) (by omega) (by omega)
      have hj : D / 8 % m < m := Nat.mod_lt _ (by omega)
      generalize D / 8 % m = j at hD3 hj
      obtain ⟨w1, w2⟩ := oI (m_dra hm dr1 dr3 k4 rfl rfl)
      rw [hD1, hD2, hD3] at w2
      rw [hD1] at w1
      rcases t_draw hm dr1 dg k3 rfl rfl with ⟨-, o⟩ | ⟨q, -⟩
      · obtain ⟨u1, u2⟩ := oI o
        rw [hD1, hD2, hD3] at u2
        rw [hD1] at u1
        rw [u2] at h
        obtain ⟨g5, r5, k5, g6, r6, k6, g7, k7, o⟩ := h (by omega) (by omega)
        -- the reference's one
        rw [w2] at x4
        have N4 : ∀ k j : Nat, ¬ (k = 253 ∧ j = 33) → g4 k j = d k j := fun k j i1 => by rw [w1, cup_ne i1]
        have sc0 : SCL c c np nq N := ⟨fun _ _ => rfl, fun _ _ => rfl, fun _ _ => ⟨fun _ _ _ => rfl, fun _ _ => rfl⟩, fun _ _ _ _ => rfl⟩
        have hC4 : CT c g4 np nq N := hC.mv sc0 (fun j _ => N4 254 j (by omega))
        obtain ⟨⟨-, -, -⟩, -, ⟨i0, i1, i2⟩, ⟨j3, j4, -⟩, -, hS4, -⟩ := id hC4
        have hR4 := hC4.hr hG
        obtain ⟨x, hx, hx1, hx2, n2, g8, r8, k8, o8⟩ := m_swa_ok b5 b6 hN i2 i0 hV hR4 hG.2.2.2.2 hS4 hW hP hO ⟨j3, j4⟩ (show j < cnt (sy c np N W P) (np * 8) by rw [← s1]; exact hj) h' x0 x1 x2 x4 x5
        obtain ⟨u3, u4⟩ := oI o8
        have hn0 : 0 < np := by
          by_cases q : np = 0
          · rw [q, Nat.zero_mul] at hx; omega
          · omega
        have hq := Nat.mod_lt x hn0
        have ht : x / np < 8 := Nat.div_lt_of_lt_mul hx
        have hwhy : whys c N W P (x % np) (x / np) = 0 := of_decide_eq_true hx1
        have hch := s3 x hx hx1
        rw [hx2] at hch
        have G3 : ∀ k j : Nat, ¬ (k = 107 ∧ j = 5) → g3 k j = g k j := fun k j i1 => by rw [u1, cup_ne i1]
        have hch3 : g3 109 j = ((x % np + 5 * (x / np) : Nat) : Int) := by rw [G3 _ _ (by omega), hch]; omega
        generalize x % np = Qx at hq hwhy hch3 k8
        generalize x / np = Tx at ht hwhy hch3 k8
        have eQ : qre (g3 109 ((j : Int)).toNat) 5 = (Qx : Int) := by
          rw [show ((j : Int)).toNat = j from rfl, hch3, show (5 : Int) = ((5 : Nat) : Int) from rfl, qre_n (by omega) (by decide) (by decide)]; omega
        have eT : qdi (g3 109 ((j : Int)).toNat) 5 = (Tx : Int) := by
          rw [show ((j : Int)).toNat = j from rfl, hch3, show (5 : Int) = ((5 : Nat) : Int) from rfl, qdi_n (by omega) (by decide) (by decide)]; omega
        rw [eQ, eT] at k5 k6
        have h3b : CB c g3 := fun k j hk => by rw [G3 k j (by omega), FG k j (by omega) (by omega)]
        have h3a : ∀ k j : Nat, 110 ≤ k → k ≤ 112 → g3 k j = ca k j := fun k j i1 i2 => by rw [G3 k j (by omega), s2 k j (by omega)]
        obtain ⟨p1, p2⟩ := oI (price_at hA h3b h3a hV hw (by omega) (by omega) (by omega) (by omega) hN k5 rfl rfl rfl)
        rw [p1, p2, h3a 110 1 (by decide) (by decide), h3a 110 2 (by decide) (by decide), hA.1.2.1.1, hA.1.2.1.2] at k6
        obtain ⟨g9, r9, q9, k8⟩ := m_swb (by omega) (by omega) (by omega) (by omega) k8 rfl rfl rfl rfl rfl
        obtain ⟨v3, v4⟩ := oI (m_why_ok (nq := nq) (by omega) (by omega) (by omega) (by omega) hN i2 hV hR4 hG.2.2.2.2 hS4 hW hP hO ⟨j3, j4⟩ q9 rfl rfl rfl rfl rfl)
        rw [v3, v4] at k8
        rcases k8 with ⟨-, gx, kx, ox⟩ | ⟨q', -⟩
        · obtain ⟨cb, db, n15, e1, e2, e3, e4, e5, e6, e7⟩ := ent_pr hC4 hG h3b hW hP hq ht hwhy k6 rfl rfl rfl rfl rfl rfl kx rfl rfl rfl rfl rfl
          obtain ⟨f1, f2⟩ := oI e1
          have f3 := oV e2
          rw [f1, f2] at k7
          rw [f3] at ox
          obtain ⟨y, ox⟩ := swb_pr e3.2.2.1.2.2 n15 ox
          obtain ⟨f4, f5⟩ := oI ox
          have f6 := oV o
          rw [← f6] at k7
          obtain ⟨a1, a2, a3⟩ := note_pr n15 e3 e4 k7 rfl rfl (u3.trans f4)
          have F : ∀ k j : Nat, ¬ (29 ≤ k ∧ k < 45 ∧ j = 7) → ¬ (k = 107 ∧ 9 ≤ j ∧ j ≤ 10) → ¬ (k = 3 ∧ 8 ≤ j ∧ j ≤ 9) → (k < 17 ∨ 45 ≤ k) → ¬ (109 ≤ k ∧ k ≤ 112) → ¬ (k = 107 ∧ j = 5) → c' k j = c k j := fun k j i1 i2 i3 i4 i5 i6 => by rw [a2 k j i1 i2, e5 k j i3 i4, G3 k j i6, FG k j (by omega) (by omega)]
          refine ⟨⟨N + 1, a1⟩, ⟨fun k j i1 i2 => F k j (by omega) (by omega) i1 (by omega) (by omega) (by omega), fun i hi => by rw [a2 _ _ (by omega) (by omega)]; exact e6 i hi, ⟨F _ _ (by omega) (by omega) (by omega) (by omega) (by omega) (by omega), F _ _ (by omega) (by omega) (by omega) (by omega) (by omega) (by omega)⟩, fun j => F _ _ (by omega) (by omega) (by omega) (by omega) (by omega) (by omega), fun k j hk => F _ _ (by omega) (by omega) (by omega) (by omega) (by omega) (by omega)⟩, ⟨fun k j i1 i2 i3 => by rw [a3 k j (by omega), e7.1 k j i1, N4 k j i3], fun j hj => by rw [a3 _ _ (by omega), e7.2 j hj, N4 _ _ (by omega)], by rw [a3 _ _ (by omega), e7.1 _ _ (by omega), N4 _ _ (by omega)]⟩, D, by omega, ?_, ?_⟩
          · rw [a2 _ _ (by omega) (by omega), e5 _ _ (by omega) (by omega), u1, cup_at]
          · rw [a3 _ _ (by omega), e7.1 _ _ (by omega), w1, cup_at]
        · exfalso; omega
      · exfalso; omega
    · exfalso; omega
  · rcases h' with ⟨z', -⟩ | ⟨-, o'⟩
    · exact absurd z z'
    · have u1 := oV o
      obtain ⟨u3, u4⟩ := oI o'
      have F : ∀ k j : Nat, ¬ (k = 107 ∧ j = 8) → ¬ (109 ≤ k ∧ k ≤ 112) → c' k j = c k j := fun k j i1 i2 => by rw [u1, cup_ne i1, FG k j (by omega) (by omega)]
      have sc : SCL c c' np nq N := SCL.of b5 b6 hN (fun k j k1 k2 => F k j (by omega) (by omega))
      exact ⟨⟨N, hC.mv sc (fun j _ => by rw [u3]), hG.mv b5 b6 sc⟩, ⟨fun k j _ k2 => F k j (by omega) (by omega), fun i hi => F _ _ (by omega) (by omega), ⟨F _ _ (by omega) (by omega), F _ _ (by omega) (by omega)⟩, fun j => F _ _ (by omega) (by omega), fun k j hk => F _ _ (by omega) (by omega)⟩, ⟨fun k j _ _ _ => by rw [u3], fun j _ => by rw [u3], by rw [u3]⟩, dr, dr1, by rw [F _ _ (by omega) (by omega)]; exact dr2, by rw [u3]; exact dr3⟩
end Any
end
section
/-! TRIALS, row by row, and how they are lived, on both sides -/
def kdm : Nat → Nat
  | 0 => 14
  | 1 => 18
  | 2 => 16
  | 3 => 17
  | 4 => 1923
  | 5 => 1909
  | 6 => 1924
  | 7 => 20
  | 8 => 22
  | _ => 21
theorem kdm_f : ∀ K : Nat, K ≤ 10 → kdm K ≤ 1924 ∧ (kdm K = 21 ↔ 9 ≤ K) ∧ (kdm K = 20 ↔ K = 7) ∧ (kdm K = 22 ↔ K = 8) ∧ (K ≤ 3 → kdm K ≤ 18) := by decide +kernel
def TROW (c d : cg) (np nq r : Nat) : Prop := ∃ K : Nat, K ≤ 10 ∧ c 9 r = (K : Int) ∧ d 254 (260 + 8 * r) = (kdm K : Int) ∧ (K = 0 ∨ K = 1 ∨ K = 3 → ∃ W : Nat, W < nq ∧ c 10 r = (W : Int) ∧ d 254 (261 + 8 * r) = (W : Int)) ∧ (K = 5 → ∃ P : Nat, P < nq ∧ c 11 r = (P : Int) ∧ d 254 (261 + 8 * r) = (P : Int)) ∧ (K = 0 ∨ K = 1 ∨ K = 2 ∨ K = 6 → ∃ P : Nat, P < nq ∧ c 11 r = (P : Int) ∧ d 254 (262 + 8 * r) = (P : Int)) ∧ (K = 0 ∨ K = 2 ∨ K = 6 → ∃ Q T : Nat, Q < np ∧ T < 8 ∧ c 12 r = (Q : Int) ∧ d 254 (263 + 8 * r) = (Q : Int) ∧ c 13 r = (T : Int) ∧ d 254 (264 + 8 * r) = (T : Int)) ∧ (K = 4 ∨ K = 5 → c 14 r = d 254 (266 + 8 * r) ∧ c 13 r = d 254 (262 + 8 * r)) ∧ (K = 7 → ∃ v : Nat, 1 ≤ v ∧ v ≤ 99 ∧ c 13 r = (v : Int) ∧ d 254 (261 + 8 * r) = (v : Int)) ∧ (K = 4 ∨ K = 5 ∨ K = 6 ∨ K = 7 ∨ K = 9 ∨ K = 10 → d 254 (265 + 8 * r) = c 15 r)
def opn (c : cg) (o : Nat) : Prop := 4 ≤ c 9 o ∧ c 9 o ≤ 7
def PAI (c : cg) (nn o e : Nat) : Prop := o < e ∧ e < nn ∧ opn c o ∧ c 15 o = (e : Int) ∧ c 15 e = (o : Int) ∧ ((c 9 o = 7 ∧ c 9 e = 10) ∨ (c 9 o ≠ 7 ∧ c 9 e = 9)) ∧ ∃ D : Nat, D ≤ 2 ∧ c 16 o = (D : Int) ∧ c 16 e = (D : Int)
def NEST (c : cg) (nn : Nat) : Prop := (∀ e : Nat, e < nn → 9 ≤ c 9 e → ∃ o : Nat, PAI c nn o e) ∧ (∀ o : Nat, o < nn → opn c o → ∃ e : Nat, PAI c nn o e) ∧ ∀ o e o' e' : Nat, PAI c nn o e → PAI c nn o' e' → o < o' → o' < e → e' < e ∧ c 16 o < c 16 o'
def TRS (c d : cg) (np nq : Nat) : Prop := (c 8 0 = 0 ∧ d 254 7 = -1) ∨ (c 8 0 = 1 ∧ ∃ nn : Nat, nn ≤ 60 ∧ c 8 2 = (nn : Int) ∧ d 254 7 = (nn : Int) ∧ (∀ r : Nat, r < nn → TROW c d np nq r) ∧ NEST c nn)
/-- a LOOP that is being lived: as often is left on both sides -/
def LPR (c d : cg) (nn k : Nat) : Prop := ∀ o e : Nat, PAI c nn o e → c 9 o = 7 → o < k → k ≤ e → ∃ ro D : Nat, ro ≤ 98 ∧ d 267 o = (ro : Int) ∧ D ≤ 2 ∧ c 16 o = (D : Int) ∧ c 108 D = ((ro + 1 : Nat) : Int)
def LRE (c d : cg) (np nq nn st k : Nat) : Prop := (k ≤ nn ∧ st ≤ 300) ∧ (∃ N : Nat, CT c d np nq N ∧ GD c np nq N) ∧ DRW c d ∧ (c 107 11 = 0 ∧ d 268 4 = 0 ∧ c 107 7 = (st : Int) ∧ d 253 34 = (st : Int)) ∧ (c 8 2 = (nn : Int) ∧ d 254 7 = (nn : Int) ∧ nn ≤ 60) ∧ (∀ r : Nat, r < nn → TROW c d np nq r) ∧ NEST c nn ∧ LPR c d nn k ∧ ∀ o : Nat, PAI c nn o k → c 9 o = 7 → o + 1 ≠ k
def LHc (c c' : cg) : Prop := (∀ k j : Nat, ¬ (k = 3 ∧ 8 ≤ j ∧ j ≤ 9) → k < 17 → c' k j = c k j) ∧ (∀ i : Nat, i < 6 → c' (17 + 2 * i) 0 = c (17 + 2 * i) 0) ∧ ∀ k j : Nat, 127 ≤ k → c' k j = c k j
def LHd (d d' : cg) : Prop := (∀ k j : Nat, k ≠ 254 → k ≠ 267 → k ≠ 268 → ¬ (k = 253 ∧ 33 ≤ j ∧ j ≤ 34) → d' k j = d k j) ∧ ∀ j : Nat, (j = 7 ∨ 260 ≤ j) → d' 254 j = d 254 j
section Row
variable {c d c2 d2 c' d' : cg} {np nq nn st k k2 o e r : Nat}
theorem LHc.rf (c : cg) : LHc c c := ⟨fun _ _ _ _ => rfl, fun _ _ => rfl, fun _ _ _ => rfl⟩
theorem LHd.rf (d : cg) : LHd d d := ⟨fun _ _ _ _ _ _ => rfl, fun _ _ => rfl⟩
theorem LHc.trz (h : LHc c c2) (h' : LHc c2 c') : LHc c c' := ⟨fun k j i1 i2 => (h'.1 k j i1 i2).trans (h.1 k j i1 i2), fun i hi => (h'.2.1 i hi).trans (h.2.1 i hi), fun k j i1 => (h'.2.2 k j i1).trans (h.2.2 k j i1)⟩
theorem LHd.trz (h : LHd d d2) (h' : LHd d2 d') : LHd d d' := ⟨fun k j i1 i2 i3 i4 => (h'.1 k j i1 i2 i3 i4).trans (h.1 k j i1 i2 i3 i4), fun j hj => (h'.2 j hj).trans (h.2 j hj)⟩
theorem LHc.ofz (h : ∀ k j : Nat, (k < 45 ∨ 127 ≤ k) → c' k j = c k j) : LHc c c' := ⟨fun k j _ i2 => h k j (by omega), fun i hi => h _ _ (by omega), fun k j i1 => h k j (by omega)⟩
theorem LHc.lfz (h : LFc c c') : LHc c c' := ⟨h.1, h.2.1, h.2.2.2.2⟩
theorem LHd.lfz (h : LFd d d') : LHd d d' := ⟨fun k j i1 i2 i3 i4 => h.1 k j i1 i3 (by omega), h.2.1⟩
theorem TROW.mvz (h : TROW c d np nq r) (hc : ∀ k j : Nat, 9 ≤ k → k ≤ 16 → c2 k j = c k j) (hd : ∀ j : Nat, 260 ≤ j → d2 254 j = d 254 j) : TROW c2 d2 np nq r := by
  obtain ⟨K, hK, a1, a2, a3, a4, a5, a6, a7, a8, a9⟩ := h
  refine ⟨K, hK, by rw [hc 9 r (by decide) (by decide)]; exact a1, by rw [hd _ (by omega)]; exact a2, fun q => ?_, fun q => ?_, fun q => ?_, fun q => ?_, fun q => ?_, fun q => ?_, fun q => ?_⟩
  · obtain ⟨W, w1, w2, w3⟩ := a3 q
    exact ⟨W, w1, by rw [hc 10 r (by decide) (by decide)]; exact w2, by rw [hd _ (by omega)]; exact w3⟩
  · obtain ⟨W, w1, w2, w3⟩ := a4 q
    exact ⟨W, w1, by rw [hc 11 r (by decide) (by decide)]; exact w2, by rw [hd _ (by omega)]; exact w3⟩
  · obtain ⟨W, w1, w2, w3⟩ := a5 q
    exact ⟨W, w1, by rw [hc 11 r (by decide) (by decide)]; exact w2, by rw [hd _ (by omega)]; exact w3⟩
  · obtain ⟨Q, T, w1, w2, w3, w4, w5, w6⟩ := a6 q
    exact ⟨Q, T, w1, w2, by rw [hc 12 r (by decide) (by decide)]; exact w3, by rw [hd _ (by omega)]; exact w4, by rw [hc 13 r (by decide) (by decide)]; exact w5, by rw [hd _ (by omega)]; exact w6⟩
  · rw [hc 14 r (by decide) (by decide), hc 13 r (by decide) (by decide), hd (266 + 8 * r) (by omega), hd (262 + 8 * r) (by omega)]
    exact a7 q
  · obtain ⟨v, w1, w2, w3, w4⟩ := a8 q
    exact ⟨v, w1, w2, by rw [hc 13 r (by decide) (by decide)]; exact w3, by rw [hd _ (by omega)]; exact w4⟩
  · rw [hd (265 + 8 * r) (by omega), hc 15 r (by decide) (by decide)]
    exact a9 q
theorem PAI.mvz (h : PAI c nn o e) (hc : ∀ k j : Nat, 9 ≤ k → k ≤ 16 → c2 k j = c k j) : PAI c2 nn o e := by
  unfold PAI opn at *
  rw [hc 9 o (by decide) (by decide), hc 15 o (by decide) (by decide), hc 15 e (by decide) (by decide), hc 9 e (by decide) (by decide), hc 16 o (by decide) (by decide), hc 16 e (by decide) (by decide)]
  exact h
theorem NEST.mvz (h : NEST c nn) (hc : ∀ k j : Nat, 9 ≤ k → k ≤ 16 → c2 k j = c k j) : NEST c2 nn := by
  have hb : ∀ k j : Nat, 9 ≤ k → k ≤ 16 → c k j = c2 k j := fun k j h1 h2 => (hc k j h1 h2).symm
  refine ⟨fun e he h9 => ?_, fun o ho h9 => ?_, fun o e o' e' p p' l1 l2 => ?_⟩
  · rw [hc 9 e (by decide) (by decide)] at h9
    obtain ⟨o, p⟩ := h.1 e he h9
    exact ⟨o, p.mvz hc⟩
  · unfold opn at h9
    rw [hc 9 o (by decide) (by decide)] at h9
    obtain ⟨e, p⟩ := h.2.1 o ho h9
    exact ⟨e, p.mvz hc⟩
  · rw [hc 16 o (by decide) (by decide), hc 16 o' (by decide) (by decide)]
    exact h.2.2 o e o' e' (p.mvz hb) (p'.mvz hb) l1 l2
theorem PAI.eun {e' : Nat} (h : PAI c nn o e) (h' : PAI c nn o e') : e = e' := by
  have a := h.2.2.2.1
  have b := h'.2.2.2.1
  omega
theorem PAI.oun {o' : Nat} (h : PAI c nn o e) (h' : PAI c nn o' e) : o = o' := by
  have a := h.2.2.2.2.1
  have b := h'.2.2.2.2.1
  omega
theorem PAI.e9z (h : PAI c nn o e) : 9 ≤ c 9 e := by
  rcases h.2.2.2.2.2.1 with ⟨-, q⟩ | ⟨-, q⟩ <;> omega
theorem PAI.o7 (h : PAI c nn o e) : 4 ≤ c 9 o ∧ c 9 o ≤ 7 := h.2.2.1
/-- a LOOP around a row of another has another place to count -/
theorem NEST.dep {i e' : Nat} (hN : NEST c nn) (h : PAI c nn o e) (h' : PAI c nn i e') (hi : i ≠ o) (h1 : i < e) (h2 : e ≤ e') : c 16 i ≠ c 16 o := by
  have n1 : e' ≠ e := fun q => hi (h'.oun (by rw [q]; exact h))
  have := h.1
  by_cases q : i < o
  · have := (hN.2.2 i e' o e h' h q (by omega)).2
    omega
  · have := (hN.2.2 o e i e' h h' (by omega) h1).1
    omega
/-- but for how often is left -/
theorem LRE.lp (h : LRE c d np nq nn st k) (hk : k2 ≤ nn) (hc : ∀ i j : Nat, i ≠ 108 → c2 i j = c i j) (hd : ∀ i j : Nat, i ≠ 267 → d2 i j = d i j) (hl : LPR c2 d2 nn k2) (hx : ∀ o : Nat, PAI c nn o k2 → c 9 o = 7 → o + 1 ≠ k2) : LRE c2 d2 np nq nn st k2 := by
  obtain ⟨⟨a1, a2⟩, ⟨N, hC, hG⟩, ⟨dr, b1, b2, b3⟩, ⟨c1, c2', c3, c4⟩, ⟨e1, e2, e3⟩, hT, hN, -, -⟩ := h
  obtain ⟨⟨q5, q6, qN⟩, -⟩ := id hC
  have s : SCL c c2 np nq N := SCL.of q5 q6 qN (fun k j _ _ => hc k j (by omega))
  have hb : ∀ k j : Nat, 9 ≤ k → k ≤ 16 → c k j = c2 k j := fun k j _ _ => (hc k j (by omega)).symm
  exact ⟨⟨hk, a2⟩, ⟨N, hC.mv s (fun j _ => hd _ _ (by omega)), hG.mv q5 q6 s⟩, ⟨dr, b1, by rw [hc _ _ (by omega)]; exact b2, by rw [hd _ _ (by omega)]; exact b3⟩, ⟨by rw [hc _ _ (by omega)]; exact c1, by rw [hd _ _ (by omega)]; exact c2', by rw [hc _ _ (by omega)]; exact c3, by rw [hd _ _ (by omega)]; exact c4⟩, ⟨by rw [hc _ _ (by omega)]; exact e1, by rw [hd _ _ (by omega)]; exact e2, e3⟩, fun r hr => (hT r hr).mvz (fun k j _ _ => hc k j (by omega)) (fun j _ => hd _ _ (by omega)), hN.mvz (fun k j _ _ => hc k j (by omega)), hl, fun o p q => hx o (p.mvz hb) (by rw [hc _ _ (by omega)] at q; exact q)⟩
/-- behind what a row does -/
theorem LRE.nx (h : LRE c d np nq nn st k) (hst : st < 300) (hk : k2 ≤ nn) (hCG : ∃ N : Nat, CT c2 d2 np nq N ∧ GD c2 np nq N) (hD : DRW c2 d2) (fc : ∀ k j : Nat, 8 ≤ k → k < 17 → c2 k j = c k j) (f1 : c2 107 11 = 0 ∧ c2 107 7 = ((st + 1 : Nat) : Int)) (f2 : ∀ j : Nat, c2 108 j = c 108 j) (fd : ∀ j : Nat, (j = 7 ∨ 260 ≤ j) → d2 254 j = d 254 j) (f3 : d2 268 4 = 0 ∧ d2 253 34 = ((st + 1 : Nat) : Int)) (f4 : ∀ j : Nat, d2 267 j = d 267 j) (hl : LPR c d nn k2) (hx : ∀ o : Nat, PAI c nn o k2 → c 9 o = 7 → o + 1 ≠ k2) : LRE c2 d2 np nq nn (st + 1) k2 := by
  obtain ⟨⟨a1, a2⟩, -, -, -, ⟨e1, e2, e3⟩, hT, hN, -, -⟩ := h
  have hc : ∀ k j : Nat, 9 ≤ k → k ≤ 16 → c2 k j = c k j := fun k j i1 i2 => fc k j (by omega) (by omega)
  have hb : ∀ k j : Nat, 9 ≤ k → k ≤ 16 → c k j = c2 k j := fun k j i1 i2 => (hc k j i1 i2).symm
  refine ⟨⟨hk, by omega⟩, hCG, hD, ⟨f1.1, f3.1, f1.2, f3.2⟩, ⟨by rw [fc _ _ (by decide) (by decide)]; exact e1, by rw [fd _ (Or.inl rfl)]; exact e2, e3⟩, fun r hr => (hT r hr).mvz hc (fun j hj => fd j (Or.inr hj)), hN.mvz hc, fun o e p q i1 i2 => ?_, fun o p q => hx o (p.mvz hb) (by rw [hc 9 o (by decide) (by decide)] at q; exact q)⟩
  rw [hc 9 o (by decide) (by decide)] at q
  obtain ⟨ro, D, w1, w2, w3, w4, w5⟩ := hl o e (p.mvz hb) q i1 i2
  exact ⟨ro, D, w1, by rw [f4]; exact w2, w3, by rw [hc 16 o (by decide) (by decide)]; exact w4, by rw [f2]; exact w5⟩
end Row
section Liv
variable {sv : Nat → Int32} {L : Nat} {np nq nn st : Nat} {c' d' : cg} {r' : Int}
/-- behind ENDS -/
theorem ends_l : ∀ (n' : Nat) {n : Nat} {lf lf' : dlf} {c d : cg} {k u : Nat}, LRE c d np nq nn st k → u ≤ 61 * st + 61 → (k < nn → 9 ≤ c 9 k → u ≤ 61 * st + k) → lf 0 = (4, 107) → lf 3 = (0, (k : Int)) → lf 4 = (0, (u : Int)) → zr sv L n 147 40 lf [] c (c', none) → lf' 0 = (4, 253) → lf' 2 = (0, (k : Int)) → zr sv L n' 250 2 lf' [] d (d', some (0, r')) → ∃ (k2 n2 u2 : Nat) (lf2 : dlf) (c2 : cg), n2 ≤ n ∧ r' = (k2 : Int) ∧ LRE c2 d' np nq nn st k2 ∧ (k2 < nn → c2 9 k2 < 9) ∧ u2 ≤ 61 * st + 61 ∧ lf2 0 = (4, 107) ∧ lf2 3 = (0, (k2 : Int)) ∧ lf2 4 = (0, (u2 : Int)) ∧ zr sv L n2 147 40 lf2 [] c2 (c', none) ∧ LHc c c2 ∧ LHd d d'
  | 0, _, _, _, _, _, _, _, _, _, _, _, _, _, _, _, _, h' => (zr_0 h').elim
  | n' + 1, n, lf, lf', c, d, k, u, hL, hu, hu2, h0, h3, h4, h, h0', h2', h' => by
    obtain ⟨⟨hk, hst⟩, hCG, hD, ⟨l1, l2, l3, l4⟩, ⟨m1, m2, m3⟩, hT, hN, hP, hx⟩ := id hL
    by_cases hlt : k < nn
    · obtain ⟨K, K10, t1, t2, -, -, -, -, -, -, t9⟩ := hT k hlt
      obtain ⟨f1, f2, f3, f4, f5⟩ := kdm_f K K10
      by_cases hE : 9 ≤ K
      · obtain ⟨o, hp⟩ := hN.1 k hlt (by omega)
        obtain ⟨p1, p2, p3, p4, p5, p6, D, D2, p7, p8⟩ := id hp
        cases n with
        | zero => exact (zr_0 h).elim
        | succ n =>
          have tq : d 254 (265 + 8 * k) = (o : Int) := (t9 (by omega)).trans p5
          obtain ⟨Ko, Ko10, to1, to2, -⟩ := hT o (by omega)
          obtain ⟨go1, go2, go3, -⟩ := kdm_f Ko Ko10
          have hk21 : d 254 (260 + 8 * k) = 21 := by rw [t2, f2.mpr hE]; rfl
          have hu3 := hu2 hlt (by omega)
          have nE : ∀ {i e : Nat}, PAI c nn i e → i ≠ k := fun q e => by
            have := q.o7
            rw [e] at this
            omega
          rcases t_go_s (by omega) (by omega) m3 K10 hst m1 l1 t1 l3 hlt h h0 h3 h4 with ⟨⟨z1, z2, z3⟩, -⟩ | ⟨⟨z1, z2, z3⟩, -⟩ | ⟨⟨z1, z2⟩, g1, r1, k1, lf1, y0, y3, y4, h⟩ | ⟨z1, lf1, y0, y3, y4, h⟩
          · exfalso; omega
          · exfalso; omega
          · -- the END of a LOOP
            have o7 : c 9 o = 7 := by
              rcases p6 with ⟨q, -⟩ | ⟨-, q⟩
              · exact q
              · omega
            obtain ⟨ro, Dx, ro98, e1, Dx2, e2, e3⟩ := hP o k hp o7 p1 (Nat.le_refl k)
            have kd20 : d 254 (260 + 8 * o) = 20 := by rw [to2, go3.mpr (by omega)]; rfl
            have hDD : c 16 k = (Dx : Int) := by omega
            rcases t_ble (by omega) Dx2 (by omega) (by omega) hDD p5 e3 k1 rfl rfl with ⟨z, o1⟩ | ⟨z, o1⟩
            · rcases m_bhe_l (by omega) m3 (by omega) (by omega) m2 hk21 tq kd20 e1 hlt h' h0' h2' with ⟨z', lf2, x0, x2, h'⟩ | ⟨z', -⟩
              · obtain ⟨u1, u2⟩ := oI o1
                have C : ∀ i j : Nat, i ≠ 108 → g1 i j = c i j := fun i j hi => by rw [u1, cup_ne (by omega)]
                have hb : ∀ k j : Nat, 9 ≤ k → k ≤ 16 → c k j = g1 k j := fun k j _ _ => (C k j (by omega)).symm
                have hL2 : LRE g1 (cup d 267 o ((ro : Int))) np nq nn st (k + 1) := by
                  refine hL.lp (by omega) C (fun i j hi => cup_ne (by omega)) (fun i e q1 q7 i1 i2 => ?_) (fun i q _ => by have := nE q; omega)
                  have q1 := q1.mvz hb
                  rw [C _ _ (by omega)] at q7
                  have n1 := nE q1
                  have n2 : i ≠ o := fun w => by
                    rw [w] at q1
                    have := q1.eun hp
                    omega
                  obtain ⟨ri, Di, w1, w2, w3, w4, w5⟩ := hP i e q1 q7 (by omega) (by omega)
                  have nd := hN.dep hp q1 n2 (by omega) (by omega)
                  exact ⟨ri, Di, w1, by rw [cup_ne (by omega)]; exact w2, w3, by rw [C _ _ (by omega)]; exact w4, by rw [u1, cup_ne (by omega)]; exact w5⟩
                obtain ⟨k2, n2, u2', lf3, c2, v1, v2, v3, v4, v5, v6, v7, v8, v9, va, vb⟩ := ends_l n' (u := u + 1) hL2 (by omega) (fun _ _ => by omega) y0 (by rw [y3, u2]; exact congrArg _ (Int.add_comm _ _)) (by rw [y4]; exact congrArg _ (Int.add_comm _ _)) h x0 (by rw [x2]; exact congrArg _ (Int.add_comm _ _)) h'
                exact ⟨k2, n2, u2', lf3, c2, by omega, v2, v3, v4, v5, v6, v7, v8, v9, (LHc.ofz (fun i j hi => C i j (by omega))).trz va, LHd.trz ⟨fun i j _ i2 _ _ => cup_ne (by omega), fun j _ => cup_ne (by omega)⟩ vb⟩
              · exfalso; omega
            · rcases m_bhe_l (by omega) m3 (by omega) (by omega) m2 hk21 tq kd20 e1 hlt h' h0' h2' with ⟨z', -⟩ | ⟨z', lf2, x0, x2, h'⟩
              · exfalso; omega
              · obtain ⟨u1, u2⟩ := oI o1
                have C : ∀ i j : Nat, i ≠ 108 → g1 i j = c i j := fun i j hi => by rw [u1, cup_ne (by omega)]
                have hb : ∀ k j : Nat, 9 ≤ k → k ≤ 16 → c k j = g1 k j := fun k j _ _ => (C k j (by omega)).symm
                have hok : o + 1 ≠ k := hx o hp o7
                have nob : ∀ i : Nat, ¬ PAI c nn i (o + 1) := fun i q => by
                  by_cases w : i = o
                  · rw [w] at q
                    exact hok (q.eun hp)
                  · have h1 := q.1
                    have := (hN.2.2 i (o + 1) o k q hp (by omega) (by omega)).1
                    omega
                have hL2 : LRE g1 (cup d 267 o ((ro : Int) - 1)) np nq nn st (o + 1) := by
                  refine hL.lp (by omega) C (fun i j hi => cup_ne (by omega)) (fun i e q1 q7 i1 i2 => ?_) (fun i q _ => absurd q (nob i))
                  have q1 := q1.mvz hb
                  rw [C _ _ (by omega)] at q7
                  by_cases w : i = o
                  · subst w
                    exact ⟨ro - 1, Dx, by omega, by rw [cup_at]; omega, Dx2, by rw [C _ _ (by omega)]; exact e2, by rw [u1, cup_at]; omega⟩
                  · have l1 := (hN.2.2 i e o k q1 hp (by omega) (by omega)).1
                    obtain ⟨ri, Di, w1, w2, w3, w4, w5⟩ := hP i e q1 q7 (by omega) (by omega)
                    have nd := hN.dep hp q1 w (by omega) (by omega)
                    exact ⟨ri, Di, w1, by rw [cup_ne (by omega)]; exact w2, w3, by rw [C _ _ (by omega)]; exact w4, by rw [u1, cup_ne (by omega)]; exact w5⟩
                obtain ⟨k2, n2, u2', lf3, c2, v1, v2, v3, v4, v5, v6, v7, v8, v9, va, vb⟩ := ends_l n' (u := u + 1) hL2 (by omega) (fun i1 i2 => by
                  rw [C _ _ (by omega)] at i2
                  obtain ⟨i, q⟩ := hN.1 (o + 1) i1 i2
                  exact absurd q (nob i)) y0 (by rw [y3, u2]; exact congrArg _ (Int.add_comm _ _)) (by rw [y4]; exact congrArg _ (Int.add_comm _ _)) h x0 (by rw [x2]; exact congrArg _ (Int.add_comm _ _)) h'
                exact ⟨k2, n2, u2', lf3, c2, by omega, v2, v3, v4, v5, v6, v7, v8, v9, (LHc.ofz (fun i j hi => C i j (by omega))).trz va, LHd.trz ⟨fun i j _ i2 _ _ => cup_ne (by omega), fun j _ => cup_ne (by omega)⟩ vb⟩
          · -- the END of a WHEN
            have o7 : c 9 o ≠ 7 := by
              rcases p6 with ⟨-, q⟩ | ⟨q, -⟩
              · omega
              · exact q
            obtain ⟨lf2, x0, x2, h'⟩ := m_bhe_w (by omega) m3 (by omega) go1 m2 hk21 tq to2 rfl hlt (fun q => o7 (by rw [to1, go3.mp q]; rfl)) h' h0' h2'
            have hL2 : LRE c (cup d 267 o (w32 (d 267 o - 0))) np nq nn st (k + 1) := by
              refine hL.lp (by omega) (fun _ _ _ => rfl) (fun i j hi => cup_ne (by omega)) (fun i e q1 q7 i1 i2 => ?_) (fun i q _ => by have := nE q; omega)
              have n1 := nE q1
              have n2 : i ≠ o := fun w => o7 (by rw [← w]; exact q7)
              obtain ⟨ri, Di, w1, w2, w3, w4, w5⟩ := hP i e q1 q7 (by omega) (by omega)
              exact ⟨ri, Di, w1, by rw [cup_ne (by omega)]; exact w2, w3, w4, w5⟩
            obtain ⟨k2, n2, u2', lf3, c2, v1, v2, v3, v4, v5, v6, v7, v8, v9, va, vb⟩ := ends_l n' (u := u + 1) hL2 (by omega) (fun _ _ => by omega) y0 (by rw [y3]; exact congrArg _ (Int.add_comm _ _)) (by rw [y4]; exact congrArg _ (Int.add_comm _ _)) h x0 (by rw [x2]; exact congrArg _ (Int.add_comm _ _)) h'
            exact ⟨k2, n2, u2', lf3, c2, by omega, v2, v3, v4, v5, v6, v7, v8, v9, va, LHd.trz ⟨fun i j _ i2 _ _ => cup_ne (by omega), fun j _ => cup_ne (by omega)⟩ vb⟩
      · obtain ⟨v1, v2⟩ := oI (m_bhe_n (by omega) m3 f1 m2 t2 (fun q => hE (f2.mp q)) hlt h' h0' h2')
        rw [v1]
        exact ⟨k, n, u, lf, c, Nat.le_refl n, v2, hL, fun _ => by omega, hu, h0, h3, h4, h, LHc.rf c, LHd.rf d⟩
    · obtain ⟨v1, v2⟩ := oI (m_bhe_e (by omega) m3 m2 (by omega) h' h0' h2')
      rw [v1]
      exact ⟨k, n, u, lf, c, Nat.le_refl n, v2, hL, fun q => absurd q hlt, hu, h0, h3, h4, h, LHc.rf c, LHd.rf d⟩
/-- what a row does but for WHEN, LOOP, STOP -/
theorem does_pr {n n' N k K : Nat} {lf lf' : dlf} {c d c1 d1 : cg} {r : Int} (hC : CT c d np nq N) (hG : GD c np nq N) (hD : DRW c d) (hk : k ≤ 59) (hT : TROW c d np nq k) (hK : c 9 k = (K : Int)) (K3 : K ≤ 3) (h : zr sv L n 149 0 lf [] c (c1, some (0, r))) (h0 : lf 0 = (4, 107)) (h1 : lf 1 = (0, (k : Int))) (h' : zr sv L n' 249 0 lf' [] d (d1, some (0, r'))) (h0' : lf' 0 = (4, 253)) (h1' : lf' 1 = (0, 260 + 8 * (k : Int))) : r = 1 + (k : Int) ∧ LST c d c1 d1 np nq := by
  obtain ⟨⟨q5, q6, qN⟩, -⟩ := id hC
  obtain ⟨K', K10, t1, t2, t3, -, t5, t6, -⟩ := hT
  have e : K' = K := by omega
  subst e
  rcases (show K' = 0 ∨ K' = 1 ∨ K' = 2 ∨ K' = 3 from by omega) with e | e | e | e <;> subst e
  · obtain ⟨W, w1, w2, w3⟩ := t3 (by omega)
    obtain ⟨P, p1, p2, p3⟩ := t5 (by omega)
    obtain ⟨Q, T, s1, s2, s3, s4, s5, s6⟩ := t6 (by omega)
    obtain ⟨g1, k1, o⟩ := t_bst_0 hk t1 h h0 h1
    obtain ⟨g2, r2, k2, o'⟩ := m_dos_14 hk (by omega) (by omega) (by omega) (by omega) t2 w3 p3 s4 s6 h' h0' h1'
    obtain ⟨u1, u2⟩ := oI o
    obtain ⟨v1, v2⟩ := oI o'
    rw [← u1] at k1
    rw [← v1] at k2
    exact ⟨u2, swt_pr hC hG hD hk w1 p1 s1 s2 w2 p2 s3 s5 k1 rfl rfl k2 rfl rfl rfl rfl rfl⟩
  · obtain ⟨W, w1, w2, w3⟩ := t3 (by omega)
    obtain ⟨P, p1, p2, p3⟩ := t5 (by omega)
    obtain ⟨g1, k1, o⟩ := t_bst_1 hk t1 h h0 h1
    obtain ⟨g2, r2, k2, o'⟩ := m_dos_18 hk (by omega) (by omega) t2 w3 p3 h' h0' h1'
    obtain ⟨u1, u2⟩ := oI o
    obtain ⟨v1, v2⟩ := oI o'
    rw [← u1] at k1
    rw [← v1] at k2
    exact ⟨u2, swy_pr hC hG hD hk w1 p1 w2 p2 k1 rfl rfl k2 rfl rfl rfl⟩
  · obtain ⟨P, p1, p2, p3⟩ := t5 (by omega)
    obtain ⟨Q, T, s1, s2, s3, s4, s5, s6⟩ := t6 (by omega)
    obtain ⟨g1, r1, k1, o⟩ := t_bst_2 hk (by omega) (by omega) (by omega) t1 p2 s3 s5 h h0 h1
    obtain ⟨g2, r2, k2, o'⟩ := m_dos_16 hk (by omega) (by omega) (by omega) t2 p3 s4 s6 h' h0' h1'
    obtain ⟨u1, u2⟩ := oI o
    have v1 : d1 = g2 := by
      rcases o' with ⟨-, o'⟩ | ⟨-, o'⟩
      · exact (oI o').1
      · exact (oI o').1
    rw [← u1] at k1
    rw [← v1] at k2
    exact ⟨u2, fnl_pr hC hG hD p1 s1 s2 k1 rfl rfl rfl rfl k2 rfl rfl rfl rfl⟩
  · obtain ⟨W, w1, w2, w3⟩ := t3 (by omega)
    obtain ⟨g1, k1, o⟩ := t_bst_3 hk (by omega) t1 w2 h h0 h1
    obtain ⟨g2, r2, k2, o'⟩ := m_dos_17 hk (by omega) t2 w3 h' h0' h1'
    obtain ⟨u1, u2⟩ := oI o
    obtain ⟨v1, v2⟩ := oI o'
    rw [← u1] at k1
    rw [← v1] at k2
    exact ⟨u2, rcl_pr hC hG hD w1 k1 rfl rfl k2 rfl rfl⟩
/-- WHEN: both hold or neither -/
theorem hld_pr {n n' N k K : Nat} {lf lf' : dlf} {c d c1 d1 : cg} {r : Int} (hC : CT c d np nq N) (hG : GD c np nq N) (hk : k ≤ 59) (hT : TROW c d np nq k) (hK : c 9 k = (K : Int)) (K3 : K = 4 ∨ K = 5 ∨ K = 6) (h : zr sv L n 150 0 lf [] c (c1, some (0, r))) (h0 : lf 0 = (4, 107)) (h1 : lf 1 = (0, (k : Int))) (h' : zr sv L n' 251 0 lf' [] d (d1, some (0, r'))) (h0' : lf' 0 = (4, 253)) (h1' : lf' 1 = (0, 260 + 8 * (k : Int))) : c1 = c ∧ d1 = d ∧ (r = 0 ↔ r' = 0) := by
  obtain ⟨⟨q5, q6, qN⟩, ⟨c0, c3, c9⟩, ⟨d0, d1', d2⟩, ⟨t3', t4', t5', t6'⟩, -, hS, -⟩ := id hC
  obtain ⟨K', K10, t1, t2, -, t4, t5, t6, t7, -⟩ := hT
  have e : K' = K := by omega
  subst e
  rcases K3 with e | e | e <;> subst e
  · obtain ⟨s1, s2⟩ := t7 (by omega)
    rcases t_hld_4 hk t1 rfl s1 s2 h h0 h1 with ⟨z, o⟩ | ⟨z, o⟩
    · rcases m_hld_1923 hk t2 rfl rfl t6' h' h0' h1' with ⟨z', o'⟩ | ⟨z', o'⟩
      · obtain ⟨u1, u2⟩ := oI o
        obtain ⟨v1, v2⟩ := oI o'
        exact ⟨u1, v1, by omega⟩
      · exfalso; omega
    · rcases m_hld_1923 hk t2 rfl rfl t6' h' h0' h1' with ⟨z', o'⟩ | ⟨z', o'⟩
      · exfalso; omega
      · obtain ⟨u1, u2⟩ := oI o
        obtain ⟨v1, v2⟩ := oI o'
        exact ⟨u1, v1, by omega⟩
  · obtain ⟨P, p1, p2, p3⟩ := t4 rfl
    obtain ⟨s1, s2⟩ := t7 (by omega)
    have pu := (hS P p1).1.1
    rcases t_hld_5 hk (by omega) t1 p2 rfl s1 s2 h h0 h1 with ⟨z, o⟩ | ⟨z, o⟩
    · rcases m_hld_1909 hk (by omega) t2 rfl rfl p3 pu h' h0' h1' with ⟨z', o'⟩ | ⟨z', o'⟩
      · obtain ⟨u1, u2⟩ := oI o
        obtain ⟨v1, v2⟩ := oI o'
        exact ⟨u1, v1, by omega⟩
      · exfalso; omega
    · rcases m_hld_1909 hk (by omega) t2 rfl rfl p3 pu h' h0' h1' with ⟨z', o'⟩ | ⟨z', o'⟩
      · exfalso; omega
      · obtain ⟨u1, u2⟩ := oI o
        obtain ⟨v1, v2⟩ := oI o'
        exact ⟨u1, v1, by omega⟩
  · obtain ⟨P, p1, p2, p3⟩ := t5 (by omega)
    obtain ⟨Q, T, s1, s2, s3, s4, s5, s6⟩ := t6 (by omega)
    have hV := hG.hv q5 q6
    have hR := hC.hr hG
    obtain ⟨g1, r1, k1, h⟩ := t_hld_6 hk (by omega) (by omega) (by omega) t1 p2 s3 s5 h h0 h1
    obtain ⟨x1, x2⟩ := oI (say_ok hV qN c9 (by omega) (by omega) (by omega) k1 rfl rfl rfl rfl)
    obtain ⟨g2, r2, k2, h'⟩ := m_hld_1924 hk (by omega) (by omega) (by omega) t2 p3 s4 s6 h' h0' h1'
    obtain ⟨y1, y2⟩ := oI (m_bkd_ok (by omega) (by omega) (by omega) qN d2 hV hR k2 rfl rfl rfl rfl rfl)
    rw [x1, x2] at h
    rw [y1, y2] at h'
    rcases h with ⟨z, o⟩ | ⟨z, o⟩
    · rcases h' with ⟨z', o'⟩ | ⟨z', o'⟩
      · obtain ⟨u1, u2⟩ := oI o
        obtain ⟨v1, v2⟩ := oI o'
        exact ⟨u1, v1, by omega⟩
      · exfalso; omega
    · rcases h' with ⟨z', o'⟩ | ⟨z', o'⟩
      · exfalso; omega
      · obtain ⟨u1, u2⟩ := oI o
        obtain ⟨v1, v2⟩ := oI o'
        exact ⟨u1, v1, by omega⟩
/-- the END of a LOOP around nothing, in the reference -/
theorem empt_l {k : Nat} (hk : k ≤ 58) (hn6 : nn ≤ 60) (hlt : k + 1 < nn) : ∀ (ro : Nat) {n' : Nat} {lf' : dlf} {d : cg}, ro ≤ 99 → d 254 7 = (nn : Int) → d 254 (260 + 8 * (k + 1)) = 21 → d 254 (265 + 8 * (k + 1)) = (k : Int) → d 254 (260 + 8 * k) = 20 → d 267 k = (ro : Int) → lf' 0 = (4, 253) → lf' 2 = (0, ((k + 1 : Nat) : Int)) → zr sv L n' 250 2 lf' [] d (d', some (0, r')) → ∃ (n2 : Nat) (lf2 : dlf) (d2 : cg), lf2 0 = (4, 253) ∧ lf2 2 = (0, ((k + 2 : Nat) : Int)) ∧ (∀ i j : Nat, ¬ (i = 267 ∧ j = k) → d2 i j = d i j) ∧ zr sv L n2 250 2 lf2 [] d2 (d', some (0, r'))
  | 0, n', lf', d, hro, e1, e2, e3, e4, e5, h0, h2, h => by
    cases n' with
    | zero => exact (zr_0 h).elim
    | succ n' =>
      rcases m_bhe_l (ro := 0) (by omega) hn6 (by omega) (by omega) e1 e2 e3 e4 e5 hlt h h0 h2 with ⟨-, lf2, x0, x2, h⟩ | ⟨z, -⟩
      · exact ⟨n', lf2, _, x0, by rw [x2]; exact congrArg _ (by omega), fun i j hi => cup_ne hi, h⟩
      · exfalso; omega
  | ro + 1, n', lf', d, hro, e1, e2, e3, e4, e5, h0, h2, h => by
    cases n' with
    | zero => exact (zr_0 h).elim
    | succ n' =>
      rcases m_bhe_l (ro := ro + 1) (by omega) hn6 (by omega) (by omega) e1 e2 e3 e4 e5 hlt h h0 h2 with ⟨z, -⟩ | ⟨-, lf2, x0, x2, h⟩
      · exfalso; omega
      · obtain ⟨n2, lf3, d2, y0, y2, y3, y4⟩ := empt_l hk hn6 hlt ro (by omega) (by rw [cup_ne (by omega)]; exact e1) (by rw [cup_ne (by omega)]; exact e2) (by rw [cup_ne (by omega)]; exact e3) (by rw [cup_ne (by omega)]; exact e4) (by rw [cup_at]; omega) x0 (by rw [x2]; exact congrArg _ (by omega)) h
        exact ⟨n2, lf3, d2, y0, y2, fun i j hi => by rw [y3 i j hi, cup_ne hi], y4⟩
end Liv
end
section
/-! TRIALS lived from the first row to the last, on both sides -/
theorem c1k (k : Nat) : ((0 : Nat), 1 + (k : Int)) = (0, ((k + 1 : Nat) : Int)) := congrArg _ (Int.add_comm _ _)
theorem scl_rf {c : cg} {np nq N : Nat} : SCL c c np nq N := ⟨fun _ _ => rfl, fun _ _ => rfl, fun _ _ => ⟨fun _ _ _ => rfl, fun _ _ => rfl⟩, fun _ _ _ _ => rfl⟩
/-- no LOOP: what is being lived a row on -/
theorem LPR.on1 {c d : cg} {nn k : Nat} (h : LPR c d nn k) (h7 : c 9 k ≠ 7) : LPR c d nn (k + 1) := fun o e p q i1 i2 => h o e p q (by
  by_cases w : o = k
  · rw [w] at q; exact absurd q h7
  · omega) (by omega)
section Lvs
variable {sv : Nat → Int32} {L : Nat} {np nq nn st : Nat} {c' d' : cg}
theorem step_l {n n' k K b : Nat} {c d g1 q1 : cg} {r1 s1 v : Int} {lf2 : dlf} (hL : LRE c d np nq nn st k) (hlt : k < nn) (hst : st < 300) (hK : c 9 k = (K : Int)) (K7 : K ≤ 7) (k1 : zr sv L n 149 0 (darg 0 [(4, 107), (0, (k : Int))]) [] (cup c 107 7 (1 + (st : Int))) (g1, some (0, r1))) (k2 : zr sv L n' 249 0 (darg 0 [(4, 253), (0, 260 + 8 * (k : Int))]) [] (cup d 253 34 (1 + (st : Int))) (q1, some (0, s1))) (hb : b ≤ 16) (x0 : lf2 0 = (4, 253)) (x2 : lf2 2 = (0, (b : Int))) (x3 : lf2 3 = (0, (k : Int))) (x4 : lf2 4 = (0, 260 + 8 * (k : Int))) (h' : zr sv L n' 248 137 lf2 [] (cup q1 268 0 v) (d', none)) : ∃ (k2 n2 : Nat) (lfx lf3 : dlf) (d2 q3 : cg) (r3 : Int), r1 = (k2 : Int) ∧ 1 ≤ k2 ∧ LRE g1 d2 np nq nn (st + 1) k2 ∧ lfx 0 = (4, 253) ∧ lfx 2 = (0, (k2 : Int)) ∧ zr sv L n2 250 2 lfx [] d2 (q3, some (0, r3)) ∧ lf3 0 = (4, 253) ∧ lf3 2 = (0, (b : Int)) ∧ lf3 3 = (0, r3) ∧ zr sv L n' 248 39 lf3 [] q3 (d', none) ∧ LHc c g1 ∧ LHd d d2 := by
  obtain ⟨⟨hk, -⟩, ⟨N, hC, hG⟩, ⟨dr, dr1, dr2, dr3⟩, ⟨l1, l2, l3, l4⟩, ⟨m1, m2, m3⟩, hT, hN, hP, hx⟩ := id hL
  obtain ⟨⟨q5, q6, qN⟩, -⟩ := id hC
  have X : ∀ i j : Nat, ¬ (i = 107 ∧ j = 7) → cup c 107 7 (1 + (st : Int)) i j = c i j := fun i j hi => cup_ne hi
  have Y : ∀ i j : Nat, ¬ (i = 253 ∧ j = 34) → cup d 253 34 (1 + (st : Int)) i j = d i j := fun i j hi => cup_ne hi
  have X7 : cup c 107 7 (1 + (st : Int)) 107 7 = ((st + 1 : Nat) : Int) := by rw [cup_at]; omega
  have Y7 : cup d 253 34 (1 + (st : Int)) 253 34 = ((st + 1 : Nat) : Int) := by rw [cup_at]; omega
  generalize cup c 107 7 (1 + (st : Int)) = cx at k1 X X7
  generalize cup d 253 34 (1 + (st : Int)) = dx at k2 Y Y7
  have sx : SCL c cx np nq N := SCL.of q5 q6 qN (fun i j i1 i2 => X i j (by omega))
  have hCx : CT cx dx np nq N := hC.mv sx (fun j _ => Y 254 j (by omega))
  have hGx : GD cx np nq N := hG.mv q5 q6 sx
  have hDx : DRW cx dx := ⟨dr, dr1, by rw [X _ _ (by omega)]; exact dr2, by rw [Y _ _ (by omega)]; exact dr3⟩
  have hTx : TROW cx dx np nq k := (hT k hlt).mvz (fun i j i1 i2 => X i j (by omega)) (fun j _ => Y _ _ (by omega))
  have hKx : cx 9 k = (K : Int) := by rw [X _ _ (by omega)]; exact hK
  have nopen : K < 4 → ∀ i : Nat, PAI c nn i (k + 1) → c 9 i = 7 → i + 1 ≠ k + 1 := fun h4 i p q e => by
    have : i = k := by omega
    rw [this] at q
    omega
  -- where both are behind what the row does, with nothing else changed
  have nxq : ∀ {c2 d2 : cg} {k2 : Nat}, k2 ≤ nn → (∃ N : Nat, CT c2 d2 np nq N ∧ GD c2 np nq N) → LFc cx c2 → LFd dx d2 → DRW c2 d2 → LPR c d nn k2 → (∀ o : Nat, PAI c nn o k2 → c 9 o = 7 → o + 1 ≠ k2) → LRE c2 d2 np nq nn (st + 1) k2 := by
    intro c2 d2 k2 i1 i2 i3 i4 i5 i6 i7
    refine hL.nx hst i1 i2 i5 (fun i j j1 j2 => by rw [i3.1 i j (by omega) j2, X _ _ (by omega)]) ⟨by rw [i3.2.2.1.2, X _ _ (by omega)]; exact l1, by rw [i3.2.2.1.1]; exact X7⟩ (fun j => by rw [i3.2.2.2.1 j, X _ _ (by omega)]) (fun j hj => by rw [i4.2.1 j hj, Y _ _ (by omega)]) ⟨by rw [i4.2.2, Y _ _ (by omega)]; exact l2, by rw [i4.1 253 34 (by omega) (by omega) (by omega)]; exact Y7⟩ (fun j => by rw [i4.1 267 j (by omega) (by omega) (by omega), Y _ _ (by omega)]) i6 i7
  have hcx : LHc c cx := LHc.ofz (fun i j _ => X i j (by omega))
  have hdx : LHd dx (cup dx 268 0 v) := ⟨fun i j _ _ i3 _ => cup_ne (by omega), fun j _ => cup_ne (by omega)⟩
  have hdd : LHd d dx := ⟨fun i j _ _ _ i4 => Y i j (by omega), fun j _ => Y _ _ (by omega)⟩
  have vd : ∀ {q : cg}, LFd dx q → LFd dx (cup q 268 0 v) := fun h => ⟨fun i j i1 i2 i3 => by rw [cup_ne (by omega)]; exact h.1 i j i1 i2 i3, fun j hj => by rw [cup_ne (by omega)]; exact h.2.1 j hj, by rw [cup_ne (by omega)]; exact h.2.2⟩
  have rfd0 : LFd dx dx := ⟨fun _ _ _ _ _ => rfl, fun _ _ => rfl, rfl⟩
  have rfc : LFc cx cx := ⟨fun _ _ _ _ => rfl, fun _ _ => rfl, ⟨rfl, rfl⟩, fun _ => rfl, fun _ _ _ => rfl⟩
  obtain ⟨K', K10, t1, t2, -, -, -, -, -, t8, t9⟩ := id hTx
  have eK : K' = K := by omega
  rw [eK] at t2 t8 t9
  obtain ⟨f1, f2, f3, f4, f5⟩ := kdm_f K (by omega)
  by_cases K3 : K ≤ 3
  · obtain ⟨e1, ⟨N2, hC2, hG2⟩, fl, fm, dr', dr4, dr5, dr6⟩ := does_pr hCx hGx hDx (by omega) hTx hKx K3 k1 rfl rfl k2 rfl rfl
    have hCv : CT g1 (cup q1 268 0 v) np nq N2 := hC2.mv scl_rf (fun j _ => cup_ne (by omega))
    have hL2 : LRE g1 (cup q1 268 0 v) np nq nn (st + 1) (k + 1) := nxq (by omega) ⟨N2, hCv, hG2⟩ fl (vd fm) ⟨dr', dr4, dr5, by rw [cup_ne (by omega)]; exact dr6⟩ (hP.on1 (by omega)) (nopen (by omega))
    obtain ⟨q3, r3, k5, lf3, a0, a2, a3, h'⟩ := m_lvs137_p hb (by omega) (f5 K3) (by rw [cup_ne (by omega), fm.2.1 _ (by omega)]; exact t2) h' x0 x2 x3 x4
    obtain ⟨lfx, y0, y2, k5⟩ := m_bhe0 (k := k + 1) (by omega) k5 rfl (c1k k)
    exact ⟨k + 1, n', lfx, lf3, _, q3, r3, by omega, by omega, hL2, y0, y2, k5, a0, a2, a3, h', hcx.trz (LHc.lfz fl), hdd.trz (LHd.lfz (vd fm))⟩
  · by_cases K7' : K = 7
    · subst K7'
      obtain ⟨w, w1, w2, w3, w4⟩ := t8 rfl
      obtain ⟨e, hp⟩ := hN.2.1 k hlt ⟨by omega, by omega⟩
      obtain ⟨p1, p2, p3, p4, p5, p6, D, D2, p7, p8⟩ := id hp
      obtain ⟨g2, r2, k3, o⟩ := t_bst_7 (by omega) hKx k1 rfl rfl
      obtain ⟨u1, u2⟩ := oI o
      rw [← u1, ← u2] at k3
      have k3 := t_inl (q := e) (by omega) D2 (by omega) (by rw [X _ _ (by omega)]; exact p7) (by rw [X _ _ (by omega)]; exact p4) w3 k3 rfl rfl
      obtain ⟨v1, v2⟩ := oI (m_dos_20 (by omega) t2 k2 rfl rfl)
      rw [v1] at h'
      obtain ⟨q3, r3, k5, lf3, a0, a2, a3, h'⟩ := m_lvs137_l hb (by omega) (by omega) (by rw [cup_ne (by omega)]; exact t2) (by rw [cup_ne (by omega)]; exact w4) h' x0 x2 x3 x4
      obtain ⟨lfx, y0, y2, k5⟩ := m_bhe0 (k := k + 1) (by omega) k5 rfl (c1k k)
      -- at the row itself, with one more step
      have hCv : CT cx (cup dx 268 0 v) np nq N := hCx.mv scl_rf (fun j _ => cup_ne (by omega))
      have hL1 : LRE cx (cup dx 268 0 v) np nq nn (st + 1) k := nxq hk ⟨N, hCv, hGx⟩ rfc (vd rfd0) ⟨dr, dr1, by rw [X _ _ (by omega)]; exact dr2, by rw [cup_ne (by omega), Y _ _ (by omega)]; exact dr3⟩ hP hx
      have PX : ∀ {i j : Nat}, PAI cx nn i j → PAI c nn i j := fun q => q.mvz (fun i j i1 i2 => (X i j (by omega)).symm)
      have XP : ∀ {i j : Nat}, PAI c nn i j → PAI cx nn i j := fun q => q.mvz (fun i j i1 i2 => X i j (by omega))
      have hNx : NEST cx nn := hN.mvz (fun i j i1 i2 => X i j (by omega))
      have hG1 : g1 = cup cx 108 D (w : Int) := by
        rcases k3 with ⟨-, q⟩ | ⟨-, q⟩
        · exact (oI q).1
        · exact (oI q).1
      have C : ∀ i j : Nat, i ≠ 108 → g1 i j = cx i j := fun i j hi => by rw [hG1, cup_ne (by omega)]
      have lhc : LHc c g1 := hcx.trz (LHc.ofz (fun i j _ => C i j (by omega)))
      -- a LOOP around this one
      have arnd : ∀ {i j : Nat}, PAI c nn i j → c 9 i = 7 → i < k → k ≤ j → ∃ ro Di : Nat, ro ≤ 98 ∧ d 267 i = (ro : Int) ∧ Di ≤ 2 ∧ c 16 i = (Di : Int) ∧ c 108 Di = ((ro + 1 : Nat) : Int) ∧ Di ≠ D := fun {i j} q q7 i1 i2 => by
        obtain ⟨ro, Di, j1, j2, j3, j4, j5⟩ := hP i j q q7 i1 i2
        have hj : k ≠ j := fun z => by
          have := q.e9z
          rw [← z] at this
          omega
        have := (hN.2.2 i j k e q hp i1 (by omega)).2
        exact ⟨ro, Di, j1, j2, j3, j4, j5, by omega⟩
      by_cases em : e = k + 1
      · -- around nothing
        rcases k3 with ⟨z, -⟩ | ⟨-, o3⟩
        · exfalso; omega
        · obtain ⟨-, ur⟩ := oI o3
          have t21 : cup (cup dx 268 0 v) 267 k ((w : Int) - 1) 254 (260 + 8 * (k + 1)) = 21 := by
            rw [cup_ne (by omega), cup_ne (by omega), Y _ _ (by omega)]
            obtain ⟨Ke, Ke10, te1, te2, -⟩ := hT e p2
            obtain ⟨-, h2, -⟩ := kdm_f Ke Ke10
            have := hp.e9z
            rw [← em, te2, h2.mpr (by omega)]; rfl
          have t265 : cup (cup dx 268 0 v) 267 k ((w : Int) - 1) 254 (265 + 8 * (k + 1)) = (k : Int) := by
            rw [cup_ne (by omega), cup_ne (by omega), Y _ _ (by omega)]
            obtain ⟨Ke, Ke10, te1, -, -, -, -, -, -, -, te9⟩ := hT e p2
            have := hp.e9z
            rw [← em, te9 (by omega)]; exact p5
          obtain ⟨n2, lfy, d2, b0, b2, b3, b4⟩ := empt_l (nn := nn) (by omega) m3 (by omega) (w - 1) (by omega) (by rw [cup_ne (by omega), cup_ne (by omega), Y _ _ (by omega)]; exact m2) t21 t265 (by rw [cup_ne (by omega), cup_ne (by omega)]; exact t2) (by rw [cup_at]; omega) y0 y2 k5
          have B : ∀ i j : Nat, ¬ (i = 267 ∧ j = k) → d2 i j = cup dx 268 0 v i j := fun i j hi => by rw [b3 i j hi, cup_ne hi]
          have hL2 : LRE g1 d2 np nq nn (st + 1) (k + 2) := by
            refine hL1.lp (by omega) C (fun i j hi => B i j (by omega)) (fun i j q q7 i1 i2 => ?_) (fun i q q7 z => ?_)
            · have q := PX (q.mvz (fun x y x1 x2 => (C x y (by omega)).symm))
              rw [C _ _ (by omega), X _ _ (by omega)] at q7
              have n1 : i ≠ k := fun z => by
                rw [z] at q
                have := q.eun hp
                omega
              have n2 : i ≠ k + 1 := fun z => by
                have := hp.e9z
                rw [em, ← z] at this
                omega
              obtain ⟨ro, Di, j1, j2, j3, j4, j5, j6⟩ := arnd q q7 (by omega) (by omega)
              exact ⟨ro, Di, j1, by rw [B _ _ (by omega), cup_ne (by omega), Y _ _ (by omega)]; exact j2, j3, by rw [C _ _ (by omega), X _ _ (by omega)]; exact j4, by rw [hG1, cup_ne (by omega), X _ _ (by omega)]; exact j5⟩
            · have q := PX q
              have := hp.e9z
              have := q.o7
              have hi : i = k + 1 := by omega
              rw [hi, ← em] at this
              omega
          exact ⟨k + 2, n2, lfy, lf3, d2, q3, r3, by omega, by omega, hL2, b0, b2, b4, a0, a2, a3, h', lhc, hdd.trz ⟨fun i j i1 i2 i3 i4 => by rw [B i j (by omega), cup_ne (by omega)], fun j _ => by rw [B _ _ (by omega), cup_ne (by omega)]⟩⟩
      · rcases k3 with ⟨-, o3⟩ | ⟨z, -⟩
        · obtain ⟨-, ur⟩ := oI o3
          have hL2 : LRE g1 (cup (cup dx 268 0 v) 267 k ((w : Int) - 1)) np nq nn (st + 1) (k + 1) := by
            refine hL1.lp (by omega) C (fun i j hi => cup_ne (by omega)) (fun i j q q7 i1 i2 => ?_) (fun i q q7 z => ?_)
            · have q := PX (q.mvz (fun x y x1 x2 => (C x y (by omega)).symm))
              rw [C _ _ (by omega), X _ _ (by omega)] at q7
              by_cases z : i = k
              · subst z
                exact ⟨w - 1, D, by omega, by rw [cup_at]; omega, D2, by rw [C _ _ (by omega), X _ _ (by omega)]; exact p7, by rw [hG1, cup_at]; omega⟩
              · obtain ⟨ro, Di, j1, j2, j3, j4, j5, j6⟩ := arnd q q7 (by omega) (by omega)
                exact ⟨ro, Di, j1, by rw [cup_ne (by omega), cup_ne (by omega), Y _ _ (by omega)]; exact j2, j3, by rw [C _ _ (by omega), X _ _ (by omega)]; exact j4, by rw [hG1, cup_ne (by omega), X _ _ (by omega)]; exact j5⟩
            · have q := PX q
              have hi : i = k := by omega
              rw [hi] at q
              exact em (hp.eun q)
          exact ⟨k + 1, n', lfx, lf3, _, q3, r3, by omega, by omega, hL2, y0, y2, k5, a0, a2, a3, h', lhc, hdd.trz ⟨fun i j i1 i2 i3 i4 => by rw [cup_ne (by omega), cup_ne (by omega)], fun j _ => by rw [cup_ne (by omega), cup_ne (by omega)]⟩⟩
        · exfalso; omega
    · -- WHEN
      have K456 : K = 4 ∨ K = 5 ∨ K = 6 := by omega
      obtain ⟨e, hp⟩ := hN.2.1 k hlt ⟨by omega, by omega⟩
      obtain ⟨p1, p2, p3, p4, p5, p6, -⟩ := id hp
      have hCv : CT cx (cup dx 268 0 v) np nq N := hCx.mv scl_rf (fun j _ => cup_ne (by omega))
      have hTv : TROW cx (cup dx 268 0 v) np nq k := hTx.mvz (fun _ _ _ _ => rfl) (fun j _ => cup_ne (by omega))
      have hDv : DRW cx (cup dx 268 0 v) := ⟨dr, dr1, by rw [X _ _ (by omega)]; exact dr2, by rw [cup_ne (by omega), Y _ _ (by omega)]; exact dr3⟩
      have v1 : q1 = dx := by
        rcases K456 with z | z | z <;> subst z
        · exact (oI (m_dos_1923 (by omega) t2 k2 rfl rfl)).1
        · exact (oI (m_dos_1909 (by omega) t2 k2 rfl rfl)).1
        · exact (oI (m_dos_1924 (by omega) t2 k2 rfl rfl)).1
      rw [v1] at h'
      have clz : ∃ (r2 : Int), zr sv L n 150 0 (darg 0 [(4, 107), (0, (k : Int))]) [] cx (g1, some (0, r2)) ∧ ((r2 = 0 ∧ r1 = w32 (g1 15 k + 1)) ∨ (r2 ≠ 0 ∧ r1 = 1 + (k : Int))) := by
        rcases K456 with z | z | z <;> subst z
        · obtain ⟨g2, r2, k3, o⟩ := t_bst_4 (by omega) hKx k1 rfl rfl
          rcases o with ⟨z, o⟩ | ⟨z, o⟩ <;> obtain ⟨u1, u2⟩ := oI o
          · exact ⟨r2, by rw [u1]; exact k3, Or.inl ⟨z, by rw [u2, u1]⟩⟩
          · exact ⟨r2, by rw [u1]; exact k3, Or.inr ⟨z, u2⟩⟩
        · obtain ⟨g2, r2, k3, o⟩ := t_bst_5 (by omega) hKx k1 rfl rfl
          rcases o with ⟨z, o⟩ | ⟨z, o⟩ <;> obtain ⟨u1, u2⟩ := oI o
          · exact ⟨r2, by rw [u1]; exact k3, Or.inl ⟨z, by rw [u2, u1]⟩⟩
          · exact ⟨r2, by rw [u1]; exact k3, Or.inr ⟨z, u2⟩⟩
        · obtain ⟨g2, r2, k3, o⟩ := t_bst_6 (by omega) hKx k1 rfl rfl
          rcases o with ⟨z, o⟩ | ⟨z, o⟩ <;> obtain ⟨u1, u2⟩ := oI o
          · exact ⟨r2, by rw [u1]; exact k3, Or.inl ⟨z, by rw [u2, u1]⟩⟩
          · exact ⟨r2, by rw [u1]; exact k3, Or.inr ⟨z, u2⟩⟩
      have rfs : ∃ (q2 : cg) (r2 : Int), zr sv L n' 251 0 (darg 0 [(4, 253), (0, 260 + 8 * (k : Int))]) [] (cup dx 268 0 v) (q2, some (0, r2)) ∧ ((r2 ≠ 0 ∧ ∃ (q3 : cg) (r3 : Int) (lf3 : dlf), zr sv L n' 250 0 (darg 0 [(4, 253), (0, 1 + (k : Int))]) [] q2 (q3, some (0, r3)) ∧ lf3 0 = (4, 253) ∧ lf3 2 = (0, (b : Int)) ∧ lf3 3 = (0, r3) ∧ zr sv L n' 248 39 lf3 [] q3 (d', none)) ∨ (r2 = 0 ∧ ∃ (q3 : cg) (r3 : Int) (lf3 : dlf), zr sv L n' 250 0 (darg 0 [(4, 253), (0, w32 (q2 254 (265 + 8 * k) + 1))]) [] q2 (q3, some (0, r3)) ∧ lf3 0 = (4, 253) ∧ lf3 2 = (0, (b : Int)) ∧ lf3 3 = (0, r3) ∧ zr sv L n' 248 39 lf3 [] q3 (d', none))) := by
        rcases K456 with z | z | z <;> subst z
        · obtain ⟨q2, r2, k3, o⟩ := m_lvs137_1923 hb (by omega) (by rw [cup_ne (by omega)]; exact t2) h' x0 x2 x3 x4
          rcases o with ⟨z, q3, r3, k4, lf3, a0, a2, a3, o⟩ | ⟨z, q3, r3, k4, lf3, a0, a2, a3, o⟩
          · exact ⟨q2, r2, k3, Or.inl ⟨z, q3, r3, lf3, k4, a0, a2, a3, o⟩⟩
          · exact ⟨q2, r2, k3, Or.inr ⟨z, q3, r3, lf3, k4, a0, a2, a3, o⟩⟩
        · obtain ⟨q2, r2, k3, o⟩ := m_lvs137_1909 hb (by omega) (by rw [cup_ne (by omega)]; exact t2) h' x0 x2 x3 x4
          rcases o with ⟨z, q3, r3, k4, lf3, a0, a2, a3, o⟩ | ⟨z, q3, r3, k4, lf3, a0, a2, a3, o⟩
          · exact ⟨q2, r2, k3, Or.inl ⟨z, q3, r3, lf3, k4, a0, a2, a3, o⟩⟩
          · exact ⟨q2, r2, k3, Or.inr ⟨z, q3, r3, lf3, k4, a0, a2, a3, o⟩⟩
        · obtain ⟨q2, r2, k3, o⟩ := m_lvs137_1924 hb (by omega) (by rw [cup_ne (by omega)]; exact t2) h' x0 x2 x3 x4
          rcases o with ⟨z, q3, r3, k4, lf3, a0, a2, a3, o⟩ | ⟨z, q3, r3, k4, lf3, a0, a2, a3, o⟩
          · exact ⟨q2, r2, k3, Or.inl ⟨z, q3, r3, lf3, k4, a0, a2, a3, o⟩⟩
          · exact ⟨q2, r2, k3, Or.inr ⟨z, q3, r3, lf3, k4, a0, a2, a3, o⟩⟩
      obtain ⟨ra, ka, ca⟩ := clz
      obtain ⟨q2, rb, kb, cb⟩ := rfs
      obtain ⟨e1, e2, e3⟩ := hld_pr hCv hGx (by omega) hTv hKx K456 ka rfl rfl kb rfl rfl
      have hfin : ∀ {k2 : Nat}, k2 ≤ nn → LPR c d nn k2 → (∀ o : Nat, PAI c nn o k2 → c 9 o = 7 → o + 1 ≠ k2) → LRE g1 q2 np nq nn (st + 1) k2 := fun i1 i2 i3 => by
        rw [e1, e2]
        exact nxq i1 ⟨N, hCv, hGx⟩ rfc (vd rfd0) hDv i2 i3
      have lhc : LHc c g1 := by rw [e1]; exact hcx
      have lhd : LHd d q2 := by rw [e2]; exact hdd.trz hdx
      rcases ca with ⟨z, u⟩ | ⟨z, u⟩
      · rcases cb with ⟨z', -⟩ | ⟨-, q3, r3, lf3, k4, a0, a2, a3, o⟩
        · exact absurd (e3.mp z) z'
        · have w1 : w32 (g1 15 k + 1) = ((e + 1 : Nat) : Int) := by
            rw [e1, X _ _ (by omega), p4, w32_id (by omega) (by omega)]; rfl
          have w2 : w32 (q2 254 (265 + 8 * k) + 1) = ((e + 1 : Nat) : Int) := by
            rw [e2, cup_ne (by omega), t9 (by omega), X _ _ (by omega), p4, w32_id (by omega) (by omega)]; rfl
          rw [w2] at k4
          obtain ⟨lfx, y0, y2, k4⟩ := m_bhe0 (k := e + 1) (by omega) k4 rfl rfl
          refine ⟨e + 1, n', lfx, lf3, q2, q3, r3, by rw [u, w1], by omega, hfin (by omega) (fun i j q q7 i1 i2 => ?_) (fun i q q7 z => ?_), y0, y2, k4, a0, a2, a3, o, lhc, lhd⟩
          · have n1 : i ≠ k := fun z => by rw [z] at q7; omega
            have n2 : i ≠ e := fun z => by
              have := hp.e9z
              rw [← z] at this
              omega
            have n3 : i < k := by
              by_cases z : i < k
              · exact z
              · have := (hN.2.2 k e i j hp q (by omega) (by omega)).1
                omega
            exact hP i j q q7 n3 (by omega)
          · have := hp.e9z
            have hi : i = e := by omega
            rw [hi] at q7
            omega
      · rcases cb with ⟨-, q3, r3, lf3, k4, a0, a2, a3, o⟩ | ⟨z', -⟩
        · obtain ⟨lfx, y0, y2, k4⟩ := m_bhe0 (k := k + 1) (by omega) k4 rfl (c1k k)
          exact ⟨k + 1, n', lfx, lf3, q2, q3, r3, by omega, by omega, hfin (by omega) (hP.on1 (by omega)) (fun i q q7 z => by
            have hi : i = k := by omega
            rw [hi] at q7
            omega), y0, y2, k4, a0, a2, a3, o, lhc, lhd⟩
        · exact absurd (e3.mpr z') z
theorem lives_l : ∀ (N0 : Nat) {n n' : Nat} {lf lf' : dlf} {c d : cg} {k st u b : Nat}, n ≤ N0 → LRE c d np nq nn st k → (k < nn → c 9 k < 9) → u ≤ 61 * st + 61 → lf 0 = (4, 107) → lf 3 = (0, (k : Int)) → lf 4 = (0, (u : Int)) → zr sv L n 147 40 lf [] c (c', none) → b ≤ 16 → lf' 0 = (4, 253) → lf' 2 = (0, (b : Int)) → lf' 3 = (0, (k : Int)) → zr sv L n' 248 39 lf' [] d (d', none) → ∃ (n2 sta : Nat) (lf2 : dlf) (d2 : cg), lf2 0 = (4, 253) ∧ lf2 2 = (0, (b : Int)) ∧ zr sv L n2 248 213 lf2 [] d2 (d', none) ∧ (∃ N : Nat, CT c' d2 np nq N ∧ GD c' np nq N) ∧ c' 107 7 = (sta : Int) ∧ d2 253 34 = (sta : Int) ∧ LHc c c' ∧ LHd d d2
  | 0, n, n', lf, lf', c, d, k, st, u, b, hn, _, _, _, _, _, _, h, _, _, _, _, _ => by
    have : n = 0 := by omega
    subst this
    exact (zr_0 h).elim
  | N0 + 1, n, n', lf, lf', c, d, k, st, u, b, hn, hL, hne, hu, h0, h3, h4, h, hb, h0', h2', h3', h' => by
    cases n with
    | zero => exact (zr_0 h).elim
    | succ n => cases n' with
      | zero => exact (zr_0 h').elim
      | succ n' =>
        obtain ⟨⟨hk, hst⟩, ⟨N, hC, hG⟩, hD, ⟨l1, l2, l3, l4⟩, ⟨m1, m2, m3⟩, hT, hN, hP, hx⟩ := id hL
        obtain ⟨⟨q5, q6, qN⟩, -⟩ := id hC
        by_cases hlt : k < nn
        · have hE := hne hlt
          obtain ⟨K, K10, t1, t2, -⟩ := hT k hlt
          obtain ⟨f1, f2, f3, f4, f5⟩ := kdm_f K K10
          rcases t_go_s (by omega) (by omega) m3 K10 hst m1 l1 t1 l3 hlt h h0 h3 h4 with ⟨⟨z1, z2, z3⟩, g1, r1, k1, lf1, y0, y3, y4, h⟩ | ⟨⟨z1, z2, z3⟩, lf1, y0, y3, y4, h⟩ | ⟨⟨z1, z2⟩, -⟩ | ⟨z1, -⟩
          · rcases m_lvs39s hb (by omega) m3 f1 hst m2 t2 l2 l4 hlt h' h0' h2' h3' with ⟨⟨w1, w2⟩, q1, s1, k2, h'⟩ | ⟨⟨w1, w2⟩, lf2, x0, x2, h'⟩ | ⟨w1, -⟩
            · have K7 : K ≤ 7 := by
                have : K ≠ 8 := fun q => w2 (by rw [f4.mpr q]; rfl)
                omega
              obtain ⟨v, lf2, x0, x2, x3, x4, h'⟩ : ∃ (v : Int) (lf2 : dlf), lf2 0 = (4, 253) ∧ lf2 2 = (0, (b : Int)) ∧ lf2 3 = (0, (k : Int)) ∧ lf2 4 = (0, 260 + 8 * (k : Int)) ∧ zr sv L n' 248 137 lf2 [] (cup q1 268 0 v) (d', none) := by
                rcases h' with ⟨-, lf2, x0, x2, x3, x4, h'⟩ | ⟨-, lf2, x0, x2, x3, x4, h'⟩
                · exact ⟨_, lf2, x0, x2, x3, x4, h'⟩
                · exact ⟨_, lf2, x0, x2, x3, x4, h'⟩
              obtain ⟨k3, n2, lfx, lf3, d2, q3, r3, e1, e2, e3, e4, e5, e6, e7, e8, e9, ex, ey, ez⟩ := step_l hL hlt (by omega) t1 K7 k1 k2 hb x0 x2 x3 x4 h'
              obtain ⟨k4, n4, u4, lf4, c4, v1, v2, v3, v4, v5, v6, v7, v8, v9, va, vb⟩ := ends_l n2 (u := u + 1) e3 (by omega) (fun _ _ => by omega) y0 (by rw [y3, e1]) (by rw [y4]; exact congrArg _ (Int.add_comm _ _)) h e4 e5 e6
              obtain ⟨n5, stb, lf5, d5, a0, a2, a3, a4, a5, a6, a7, a8⟩ := lives_l N0 (by omega) v3 v4 v5 v6 v7 v8 v9 hb e7 e8 (by rw [e9, v2]) ex
              exact ⟨n5, stb, lf5, d5, a0, a2, a3, a4, a5, a6, ey.trz (va.trz a7), ez.trz (vb.trz a8)⟩
            · -- STOP
              have K8 : K = 8 := f4.mp (by omega)
              subst K8
              have X : ∀ i j : Nat, ¬ (i = 107 ∧ j = 7) → cup c 107 7 (1 + (st : Int)) i j = c i j := fun i j hi => cup_ne hi
              obtain ⟨u1, u2⟩ := oI (t_bst_8 (by omega) m3 (by rw [X _ _ (by omega)]; exact t1) (by rw [X _ _ (by omega)]; exact m1) k1 rfl rfl)
              cases n with
              | zero => exact (zr_0 h).elim
              | succ n =>
                have e := oV (t_go_e (k := nn) (u := u + 1) m3 (by omega) m3 (by rw [u1, X _ _ (by omega)]; exact m1) (Nat.le_refl _) h y0 (by rw [y3, u2]) (by rw [y4]; exact congrArg _ (Int.add_comm _ _)))
                have sx : SCL c c' np nq N := SCL.of q5 q6 qN (fun i j i1 i2 => by rw [e, u1, X i j (by omega)])
                exact ⟨n', st + 1, lf2, _, x0, x2, h', ⟨N, hC.mv sx (fun j _ => cup_ne (by omega)), hG.mv q5 q6 sx⟩, by rw [e, u1, cup_at]; omega, by rw [cup_at]; omega, LHc.ofz (fun i j _ => by rw [e, u1, X i j (by omega)]), fun i j _ _ _ i4 => cup_ne (by omega), fun j _ => cup_ne (by omega)⟩
            · exfalso; omega
          · -- no more than so many
            have hs : st = 300 := by omega
            rcases m_lvs39s hb (by omega) m3 f1 hst m2 t2 l2 l4 hlt h' h0' h2' h3' with ⟨⟨w1, w2⟩, -⟩ | ⟨⟨w1, w2⟩, -⟩ | ⟨w1, lf2, x0, x2, x3, h'⟩
            · exfalso; omega
            · exfalso; omega
            · cases n with
              | zero => exact (zr_0 h).elim
              | succ n => cases n' with
                | zero => exact (zr_0 h').elim
                | succ n' =>
                  have e := oV (t_go_l (k := k) (u := u + 1) (by omega) (by omega) m3 (by rw [cup_ne (by omega)]; exact m1) cup_at hlt h y0 y3 (by rw [y4]; exact congrArg _ (Int.add_comm _ _)))
                  obtain ⟨lf3, b0, b2, h'⟩ := m_lvs39l hb (by omega) m3 (by rw [cup_ne (by omega)]; exact m2) cup_at hlt h' x0 x2 x3
                  have sx : SCL c c' np nq N := SCL.of q5 q6 qN (fun i j i1 i2 => by rw [e, cup_ne (by omega)])
                  exact ⟨n', st, lf3, _, b0, b2, h', ⟨N, hC.mv sx (fun j _ => cup_ne (by omega)), hG.mv q5 q6 sx⟩, by rw [e, cup_ne (by omega)]; exact l3, by rw [cup_ne (by omega)]; exact l4, LHc.ofz (fun i j _ => by rw [e, cup_ne (by omega)]), fun i j _ _ i3 _ => cup_ne (by omega), fun j _ => cup_ne (by omega)⟩
          · exfalso; omega
          · exfalso; omega
        · have e := oV (t_go_e (k := k) (u := u) (by omega) (by omega) m3 m1 (by omega) h h0 h3 h4)
          obtain ⟨lf3, b0, b2, h'⟩ := m_lvs39e hb (by omega) m3 m2 (by omega) h' h0' h2' h3'
          exact ⟨n', st, lf3, d, b0, b2, h', ⟨N, by rw [e]; exact hC, by rw [e]; exact hG⟩, by rw [e]; exact l3, l4, by rw [e]; exact LHc.rf c, LHd.rf d⟩
end Lvs
end
section
/-! live, on both sides -/
def FRv (c c' : cg) : Prop := (∀ k j : Nat, ¬ (k = 0 ∧ (j = 0 ∨ j = 17)) → ¬ (k = 3 ∧ 8 ≤ j ∧ j ≤ 9) → (k < 17 ∨ 127 ≤ k) → c' k j = c k j) ∧ ∀ i : Nat, i < 6 → c' (17 + 2 * i) 0 = c (17 + 2 * i) 0
def FRw (d d' : cg) : Prop := (∀ k j : Nat, k ≠ 254 → ¬ (267 ≤ k ∧ k ≤ 269) → ¬ (k = 253 ∧ (j = 2 ∨ 33 ≤ j)) → d' k j = d k j) ∧ (∀ j : Nat, (j = 7 ∨ 260 ≤ j) → d' 254 j = d 254 j) ∧ d' 253 39 = d 253 39
section Lvo
variable {sv : Nat → Int32} {L : Nat} {n n' : Nat} {lf lf' : dlf} {c d c' d' : cg} {np nq N : Nat} {a r r' : Int}
/-- five zeros -/
theorem lvz_l {o : cg × Option cv} (h : zr sv L n 248 12 lf [] d o) (h0 : lf 0 = (4, 253)) (h2 : lf 2 = (0, 0)) : ∃ (n2 : Nat) (lf2 : dlf) (g : cg), lf2 0 = (4, 253) ∧ lf2 2 = (0, g 254 2) ∧ lf2 3 = (0, 0) ∧ (∀ i j : Nat, i ≠ 268 → g i j = d i j) ∧ (∀ j : Nat, j < 5 → g 268 j = 0) ∧ zr sv L n2 248 39 lf2 [] g o := by
  refine zloop (fun k lf g => k ≤ 5 ∧ lf 0 = (4, 253) ∧ lf 2 = (0, (k : Int)) ∧ (∀ i j : Nat, i ≠ 268 → g i j = d i j) ∧ ∀ j : Nat, j < k → g 268 j = 0) _ ?_ n 0 lf d ⟨by omega, h0, h2, fun _ _ _ => rfl, fun j hj => absurd hj (Nat.not_lt_zero j)⟩ h
  intro n k lf g ⟨hk, b0, b2, b3, b4⟩ h
  by_cases hlt : k < 5
  · obtain ⟨lf2, y0, y2, h⟩ := m_lvs12s (by omega) h b0 b2
    exact Or.inr ⟨lf2, _, ⟨by omega, y0, by rw [y2]; exact congrArg _ (Int.add_comm _ _), fun i j hi => by rw [cup_ne (by omega)]; exact b3 i j hi, fun j hj => by
      by_cases e : j = k
      · rw [e, cup_at]
      · rw [cup_ne (by omega)]; exact b4 j (by omega)⟩, h⟩
  · have ek : k = 5 := by omega
    subst ek
    obtain ⟨lf2, y0, y2, y3, h⟩ := m_lvs12e h b0 b2
    exact Or.inl ⟨n, lf2, g, y0, y2, y3, b3, b4, h⟩
/-- how many are VOID -/
theorem lvv_l {b : Nat} {o : cg × Option cv} (hN : d 254 2 = (N : Int)) (hN16 : N ≤ 16) (hb : b ≤ 16) (h : zr sv L n 248 213 lf [] d o) (h0 : lf 0 = (4, 253)) (h2 : lf 2 = (0, (b : Int))) : ∃ g : cg, o = (g, none) ∧ ∀ i j : Nat, i ≠ 268 → g i j = d i j := by
  obtain ⟨lf1, y0, y4, h⟩ := m_lvs213 hb h h0 h2
  refine zloop (fun k lf g => b + k ≤ 16 ∧ lf 0 = (4, 253) ∧ lf 4 = (0, ((b + k : Nat) : Int)) ∧ ∀ i j : Nat, i ≠ 268 → g i j = d i j) _ ?_ n 0 lf1 d ⟨by omega, y0, y4, fun _ _ _ => rfl⟩ h
  intro n k lf g ⟨hk, b0, b4, b3⟩ h
  have gN : g 254 2 = (N : Int) := by rw [b3 _ _ (by omega)]; exact hN
  by_cases hlt : b + k < N
  · rcases m_lvs216s (by omega) hN16 gN rfl hlt h b0 b4 with ⟨-, lf2, y0, y4, h⟩ | ⟨-, lf2, y0, y4, h⟩
    · exact Or.inr ⟨lf2, _, ⟨by omega, y0, by rw [y4]; exact congrArg _ (by omega), fun i j hi => by rw [cup_ne (by omega)]; exact b3 i j hi⟩, h⟩
    · exact Or.inr ⟨lf2, _, ⟨by omega, y0, by rw [y4]; exact congrArg _ (by omega), fun i j hi => by rw [cup_ne (by omega)]; exact b3 i j hi⟩, h⟩
  · exact Or.inl ⟨g, m_lvs216e (by omega) hN16 gN (by omega) h b0 b4, b3⟩
/-- what is told of it -/
theorem lvt_l {o : cg × Option cv} (h : zr sv L n 362 43 lf [] d o) (h0 : lf 0 = (4, 253)) (h2 : lf 2 = (0, 0)) : ∃ g : cg, o = (cup (cup g 253 38 1) 253 2 0, some (0, d 253 34)) ∧ ∀ i j : Nat, i ≠ 269 → g i j = d i j := by
  refine zloop (fun k lf g => k ≤ 5 ∧ lf 0 = (4, 253) ∧ lf 2 = (0, (k : Int)) ∧ ∀ i j : Nat, i ≠ 269 → g i j = d i j) _ ?_ n 0 lf d ⟨by omega, h0, h2, fun _ _ _ => rfl⟩ h
  intro n k lf g ⟨hk, b0, b2, b3⟩ h
  by_cases hlt : k < 5
  · obtain ⟨lf2, y0, y2, h⟩ := m_liv43s (by omega) h b0 b2
    exact Or.inr ⟨lf2, _, ⟨by omega, y0, by rw [y2]; exact congrArg _ (Int.add_comm _ _), fun i j hi => by rw [cup_ne (by omega)]; exact b3 i j hi⟩, h⟩
  · have ek : k = 5 := by omega
    subst ek
    have e := m_liv43e h b0 b2
    rw [b3 253 34 (by omega)] at e
    exact Or.inl ⟨g, e, b3⟩
theorem live_op (hC : CT c d np nq N) (hG : GD c np nq N) (hT : TRS c d np nq) (h : zr sv L n 361 0 lf [] c (c', some (0, r))) (h0 : lf 0 = (4, 0)) (h1 : lf 1 = (0, a)) (h' : zr sv L n' 362 0 lf' [] d (d', some (0, r'))) (h0' : lf' 0 = (4, 253)) (h1' : lf' 1 = (0, a)) : r = r' ∧ (∃ N : Nat, CT c' d' np nq N ∧ GD c' np nq N) ∧ FRv c c' ∧ FRw d d' := by
  obtain ⟨⟨q5, q6, qN⟩, -, ⟨-, -, d2⟩, -⟩ := id hC
  have s1 := csgnl (z := a - 0)
  have s2 := csgng (z := a - 9999)
  have st : ∀ {x y : Int}, c' = cup c 0 0 x → d' = cup d 253 2 y → (∃ N : Nat, CT c' d' np nq N ∧ GD c' np nq N) ∧ FRv c c' ∧ FRw d d' := fun {x y} e e' => by
    have sx : SCL c c' np nq N := SCL.of q5 q6 qN (fun i j i1 i2 => by rw [e, cup_ne (by omega)])
    exact ⟨⟨N, hC.mv sx (fun j _ => by rw [e', cup_ne (by omega)]), hG.mv q5 q6 sx⟩, ⟨fun i j i1 i2 i3 => by rw [e, cup_ne (by omega)], fun i _ => by rw [e, cup_ne (by omega)]⟩, fun i j i1 i2 i3 => by rw [e', cup_ne (by omega)], fun j _ => by rw [e', cup_ne (by omega)], by rw [e', cup_ne (by omega)]⟩
  rcases t_liv h h0 h1 with ⟨z, o⟩ | ⟨z, g1, k1, o⟩ | ⟨z, o⟩
  · rcases m_liv h' h0' h1' with ⟨z', o'⟩ | ⟨z', -⟩ | ⟨z', -⟩
    · obtain ⟨u1, u2⟩ := oI o
      obtain ⟨v1, v2⟩ := oI o'
      exact ⟨by omega, st u1 v1⟩
    · exfalso; omega
    · exfalso; omega
  · rcases hT with ⟨w1, w2⟩ | ⟨w1, nn, w2, w3, w4, w5, w6⟩
    · exfalso; omega
    · rcases m_liv h' h0' h1' with ⟨z', -⟩ | ⟨z', q1, k2, lf2, x0, x2, h'⟩ | ⟨z', -⟩
      · exfalso; omega
      · obtain ⟨u1, u2⟩ := oI o
        -- the class, ahead of the first row
        obtain ⟨lf1, y0, y3, y4, k1⟩ := t_go0 k1 rfl rfl rfl
        have X : ∀ i j : Nat, i ≠ 107 → ¬ (i = 0 ∧ j = 17) → cup (cup (cup (cup (cup (cup (cup (cup c 0 17 (w32 ((c 0 17) + 1))) 107 5 a) 107 6 (w32 ((c 0 17) + 1))) 107 7 0) 107 8 0) 107 9 0) 107 10 0) 107 11 0 i j = c i j := fun i j i1 i2 => by
          rw [cup_ne (by omega), cup_ne (by omega), cup_ne (by omega), cup_ne (by omega), cup_ne (by omega), cup_ne (by omega), cup_ne (by omega), cup_ne (by omega)]
        have X5 : cup (cup (cup (cup (cup (cup (cup (cup c 0 17 (w32 ((c 0 17) + 1))) 107 5 a) 107 6 (w32 ((c 0 17) + 1))) 107 7 0) 107 8 0) 107 9 0) 107 10 0) 107 11 0 107 5 = a := by
          rw [cup_ne (by omega), cup_ne (by omega), cup_ne (by omega), cup_ne (by omega), cup_ne (by omega), cup_ne (by omega), cup_at]
        have X7 : cup (cup (cup (cup (cup (cup (cup (cup c 0 17 (w32 ((c 0 17) + 1))) 107 5 a) 107 6 (w32 ((c 0 17) + 1))) 107 7 0) 107 8 0) 107 9 0) 107 10 0) 107 11 0 107 7 = 0 := by
          rw [cup_ne (by omega), cup_ne (by omega), cup_ne (by omega), cup_ne (by omega), cup_at]
        have Xb : cup (cup (cup (cup (cup (cup (cup (cup c 0 17 (w32 ((c 0 17) + 1))) 107 5 a) 107 6 (w32 ((c 0 17) + 1))) 107 7 0) 107 8 0) 107 9 0) 107 10 0) 107 11 0 107 11 = 0 := cup_at
        generalize cup (cup (cup (cup (cup (cup (cup (cup c 0 17 (w32 ((c 0 17) + 1))) 107 5 a) 107 6 (w32 ((c 0 17) + 1))) 107 7 0) 107 8 0) 107 9 0) 107 10 0) 107 11 0 = cx at k1 X X5 X7 Xb
        -- the reference
        obtain ⟨lf3, b0, b2, k2⟩ := m_lvs0 k2 rfl rfl
        obtain ⟨n3, lf4, dx, e0, e2, e3, e4, e5, k2⟩ := lvz_l k2 b0 b2
        have Y : ∀ i j : Nat, i ≠ 268 → ¬ (i = 253 ∧ 33 ≤ j) → dx i j = d i j := fun i j i1 i2 => by
          rw [e4 i j i1, cup_ne (by omega), cup_ne (by omega)]
        have Y3 : dx 253 33 = a := by rw [e4 _ _ (by omega), cup_ne (by omega), cup_at]
        have Y4 : dx 253 34 = 0 := by rw [e4 _ _ (by omega), cup_at]
        have dN : dx 254 2 = (N : Int) := by rw [Y _ _ (by omega) (by omega)]; exact d2
        have sx : SCL c cx np nq N := SCL.of q5 q6 qN (fun i j i1 i2 => X i j (by omega) (by omega))
        have hCx : CT cx dx np nq N := hC.mv sx (fun j _ => Y 254 j (by omega) (by omega))
        have hNx : NEST cx nn := w6.mvz (fun i j i1 i2 => X i j (by omega) (by omega))
        have noP : ∀ i : Nat, ¬ PAI cx nn i 0 := fun i q => absurd q.1 (Nat.not_lt_zero i)
        have hL : LRE cx dx np nq nn 0 0 := ⟨⟨by omega, by omega⟩, ⟨N, hCx, hG.mv q5 q6 sx⟩, ⟨a.toNat, by omega, by rw [X5]; omega, by rw [Y3]; omega⟩, ⟨Xb, e5 4 (by omega), X7, Y4⟩, ⟨by rw [X _ _ (by omega) (by omega)]; exact w3, by rw [Y _ _ (by omega) (by omega)]; exact w4, w2⟩, fun i hi => (w5 i hi).mvz (fun k j i1 i2 => X k j (by omega) (by omega)) (fun j _ => Y 254 j (by omega) (by omega)), hNx, fun o e _ _ i1 _ => absurd i1 (Nat.not_lt_zero o), fun o q _ => absurd q (noP o)⟩
        obtain ⟨n5, sta, lf5, dz, f0, f2, f3, ⟨N2, hC2, hG2⟩, f5, f6, f7, f8⟩ := lives_l n (Nat.le_refl n) hL (fun i1 => by
          by_cases i2 : 9 ≤ cx 9 0
          · obtain ⟨i, q⟩ := hNx.1 0 i1 i2
            exact absurd q (noP i)
          · omega) (u := 0) (by omega) y0 y3 y4 k1 (b := N) qN e0 (by rw [e2, dN]) e3 k2
        obtain ⟨⟨-, -, qN2⟩, -, ⟨-, -, i2⟩, -⟩ := id hC2
        obtain ⟨dw, j1, j2⟩ := lvv_l i2 qN2 qN f3 f0 f2
        have j1 := oV j1
        rw [j1] at h'
        obtain ⟨dv, m1, m2⟩ := lvt_l h' x0 x2
        obtain ⟨v1, v2⟩ := oI m1
        have D : ∀ i j : Nat, i ≠ 268 → i ≠ 269 → ¬ (i = 253 ∧ (j = 2 ∨ j = 38)) → d' i j = dz i j := fun i j i1 i2 i3 => by
          rw [v1, cup_ne (by omega), cup_ne (by omega), m2 i j i2, j2 i j i1]
        have sc : SCL g1 c' np nq N2 := SCL.of q5 q6 qN2 (fun i j i1 i2 => by rw [u1, cup_ne (by omega)])
        refine ⟨?_, ⟨N2, hC2.mv sc (fun j _ => D 254 j (by omega) (by omega) (by omega)), hG2.mv q5 q6 sc⟩, ⟨fun i j i1 i2 i3 => ?_, fun i hi => ?_⟩, fun i j i1 i2 i3 => ?_, fun j hj => ?_, ?_⟩
        · rw [u2, v2, f5, j2 _ _ (by omega), f6]
        · rw [u1, cup_ne (by omega)]
          rcases i3 with i3 | i3
          · rw [f7.1 i j i2 i3, X i j (by omega) (by omega)]
          · rw [f7.2.2 i j i3, X i j (by omega) (by omega)]
        · rw [u1, cup_ne (by omega), f7.2.1 i hi, X _ _ (by omega) (by omega)]
        · rw [D i j (by omega) (by omega) (by omega), f8.1 i j i1 (by omega) (by omega) (by omega), Y i j (by omega) (by omega)]
        · rw [D _ _ (by omega) (by omega) (by omega), f8.2 j hj, Y _ _ (by omega) (by omega)]
        · rw [D _ _ (by omega) (by omega) (by omega), f8.1 _ _ (by omega) (by omega) (by omega) (by omega), e4 _ _ (by omega), cup_ne (by omega), cup_ne (by omega)]
      · exfalso; omega
  · rcases hT with ⟨w1, w2⟩ | ⟨w1, nn, w2, w3, w4, w5, w6⟩
    · rcases m_liv h' h0' h1' with ⟨z', -⟩ | ⟨z', -⟩ | ⟨z', o'⟩
      · exfalso; omega
      · exfalso; omega
      · obtain ⟨u1, u2⟩ := oI o
        obtain ⟨v1, v2⟩ := oI o'
        exact ⟨by omega, st u1 v1⟩
    · exfalso; omega
end Lvo
end
section
/-! all that both courts hold, wherever they lie: the class's at B, the reference's at a, its TRIALS' rows at s -/
def vc (B : Nat) (c : cg) : cg := fun k j => c (k + B - 3) j
def vd (a s : Nat) (d : cg) : cg := fun k j => if k = 254 then (if j < 260 then d 254 (a + j) else d 254 (s + (j - 260))) else d k j
theorem vd_lo {a s j : Nat} {d : cg} (h : j < 260) : vd a s d 254 j = d 254 (a + j) := by
  unfold vd
  rw [if_pos rfl, if_pos h]
theorem vd_hi {a s j : Nat} {d : cg} (h : 260 ≤ j) : vd a s d 254 j = d 254 (s + (j - 260)) := by
  unfold vd
  rw [if_pos rfl, if_neg (by omega)]
theorem vc_3 {c : cg} : vc 3 c = c := rfl
theorem vd_0 {d : cg} : vd 0 260 d = d := funext fun k => funext fun j => by
  unfold vd
  by_cases h : k = 254
  · rw [if_pos h, h]
    by_cases q : j < 260
    · rw [if_pos q, Nat.zero_add]
    · rw [if_neg q, show 260 + (j - 260) = j by omega]
  · rw [if_neg h]
theorem TROW.mvr {c d c2 d2 : cg} {np nq r : Nat} (h : TROW c d np nq r) (hc : ∀ k : Nat, 9 ≤ k → k ≤ 16 → c2 k r = c k r) (hd : ∀ j : Nat, 260 + 8 * r ≤ j → j < 268 + 8 * r → d2 254 j = d 254 j) : TROW c2 d2 np nq r := by
  unfold TROW at *
  rw [hc 9 (by decide) (by decide), hc 10 (by decide) (by decide), hc 11 (by decide) (by decide), hc 12 (by decide) (by decide), hc 13 (by decide) (by decide), hc 14 (by decide) (by decide), hc 15 (by decide) (by decide), hd (260 + 8 * r) (by omega) (by omega), hd (261 + 8 * r) (by omega) (by omega), hd (262 + 8 * r) (by omega) (by omega), hd (263 + 8 * r) (by omega) (by omega), hd (264 + 8 * r) (by omega) (by omega), hd (265 + 8 * r) (by omega) (by omega), hd (266 + 8 * r) (by omega) (by omega)]
  exact h
theorem PAI.mvr {c c2 : cg} {nn o e : Nat} (h : PAI c nn o e) (hc : ∀ k r : Nat, 9 ≤ k → k ≤ 16 → r < nn → c2 k r = c k r) : PAI c2 nn o e := by
  have h1 := h.1
  have h2 := h.2.1
  unfold PAI opn at *
  rw [hc 9 o (by decide) (by decide) (by omega), hc 15 o (by decide) (by decide) (by omega), hc 15 e (by decide) (by decide) (by omega), hc 9 e (by decide) (by decide) (by omega), hc 16 o (by decide) (by decide) (by omega), hc 16 e (by decide) (by decide) (by omega)]
  exact h
theorem NEST.mvr {c c2 : cg} {nn : Nat} (h : NEST c nn) (hc : ∀ k r : Nat, 9 ≤ k → k ≤ 16 → r < nn → c2 k r = c k r) : NEST c2 nn := by
  have hb : ∀ k r : Nat, 9 ≤ k → k ≤ 16 → r < nn → c k r = c2 k r := fun k r h1 h2 h3 => (hc k r h1 h2 h3).symm
  refine ⟨fun e he h9 => ?_, fun o ho h9 => ?_, fun o e o' e' p p' l1 l2 => ?_⟩
  · rw [hc 9 e (by decide) (by decide) he] at h9
    obtain ⟨o, p⟩ := h.1 e he h9
    exact ⟨o, p.mvr hc⟩
  · unfold opn at h9
    rw [hc 9 o (by decide) (by decide) ho] at h9
    obtain ⟨e, p⟩ := h.2.1 o ho h9
    exact ⟨e, p.mvr hc⟩
  · have h1 := p.1
    have h2 := p.2.1
    have h3 := p'.1
    have h4 := p'.2.1
    rw [hc 16 o (by decide) (by decide) (by omega), hc 16 o' (by decide) (by decide) (by omega)]
    exact h.2.2 o e o' e' (p.mvr hb) (p'.mvr hb) l1 l2
theorem TRS.mvr {c d c2 d2 : cg} {np nq : Nat} (h : TRS c d np nq) (e0 : c2 8 0 = c 8 0) (e7 : d2 254 7 = d 254 7) (hc : c 8 0 = 1 → c2 8 2 = c 8 2 ∧ ∀ k r : Nat, 9 ≤ k → k ≤ 16 → (r : Int) < c 8 2 → c2 k r = c k r) (hd : ∀ j : Nat, 260 ≤ j → j < 740 → d2 254 j = d 254 j) : TRS c2 d2 np nq := by
  rcases h with ⟨h1, h2⟩ | ⟨h1, nn, h2, h3, h4, h5, h6⟩
  · exact Or.inl ⟨e0.trans h1, e7.trans h2⟩
  · obtain ⟨c1, c2'⟩ := hc h1
    exact Or.inr ⟨e0.trans h1, nn, h2, c1.trans h3, e7.trans h4, fun r hr => (h5 r hr).mvr (fun k k1 k2 => c2' k r k1 k2 (by omega)) (fun j j1 j2 => hd j (by omega) (by omega)), h6.mvr (fun k r k1 k2 hr => c2' k r k1 k2 (by omega))⟩
/-- courts and TRIALS of both -/
def RDT (c d : cg) : Prop := ∃ np nq N : Nat, CT c d np nq N ∧ GD c np nq N ∧ TRS c d np nq
def RX (B a s : Nat) (g : cg) : Prop := RDT (vc B g) (vd a s g)
theorem RDT.mvr {c d c2 d2 : cg} (h : RDT c d) (e1 : ∀ np nq N : Nat, np ≤ 5 → nq ≤ 6 → N ≤ 16 → c 3 0 = (np : Int) → c 3 3 = (nq : Int) → c 3 9 = (N : Int) → SCL c c2 np nq N) (e2 : ∀ j : Nat, j < 260 → d2 254 j = d 254 j) (e0 : c2 8 0 = c 8 0) (hc : c 8 0 = 1 → c2 8 2 = c 8 2 ∧ ∀ k r : Nat, 9 ≤ k → k ≤ 16 → (r : Int) < c 8 2 → c2 k r = c k r) (hd : ∀ j : Nat, 260 ≤ j → j < 740 → d2 254 j = d 254 j) : RDT c2 d2 := by
  obtain ⟨np, nq, N, hC, hG, hT⟩ := h
  obtain ⟨⟨q5, q6, qN⟩, ⟨a1, a2, a3⟩, -⟩ := id hC
  have s := e1 np nq N q5 q6 qN a1 a2 a3
  exact ⟨np, nq, N, hC.mv s e2, hG.mv q5 q6 s, hT.mvr e0 (e2 7 (by decide)) hc hd⟩
/-- where all its cells are the same -/
theorem RX.upz {B a s : Nat} {g g' : cg} (h : RX B a s g) (h1 : ∀ k j : Nat, B ≤ k → k < B + 42 → g' k j = g k j) (h2 : ∀ j : Nat, a ≤ j → j < a + 260 → g' 254 j = g 254 j) (h3 : ∀ j : Nat, s ≤ j → j < s + 480 → g' 254 j = g 254 j) : RX B a s g' := by
  have C : ∀ k j : Nat, 3 ≤ k → k < 45 → vc B g' k j = vc B g k j := fun k j k1 k2 => h1 (k + B - 3) j (by omega) (by omega)
  exact RDT.mvr h (fun np nq N q5 q6 qN _ _ _ => SCL.of q5 q6 qN (fun k j k1 k2 => C k j k1 k2)) (fun j hj => by rw [vd_lo hj, vd_lo hj]; exact h2 _ (by omega) (by omega)) (C 8 0 (by decide) (by decide)) (fun _ => ⟨C 8 2 (by decide) (by decide), fun k r k1 k2 _ => C k r (by omega) (by omega)⟩) (fun j j1 j2 => by rw [vd_hi j1, vd_hi j1]; exact h3 _ (by omega) (by omega))
/-- the reference's court taken elsewhere -/
theorem RX.atz {B a s a' : Nat} {g : cg} (h : RX B a s g) (e : ∀ j : Nat, j < 260 → g 254 (a' + j) = g 254 (a + j)) : RX B a' s g :=
  RDT.mvr h (fun _ _ _ _ _ _ _ _ _ => scl_rf) (fun j hj => by rw [vd_lo hj, vd_lo hj]; exact e j hj) rfl (fun _ => ⟨rfl, fun _ _ _ _ _ => rfl⟩) (fun j j1 j2 => by rw [vd_hi j1, vd_hi j1])
end
