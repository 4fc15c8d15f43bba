/-! the same for the one who lives (the object 110): by program (wip/tools/zask.py) -/
def ASDl (c c' : cg) (N W P : Nat) : Prop := AS 110 c W P N c' ∧ ((c' 110 5 = 0 ∧ ¬ 0 < cnt (lfr c W P) N) ∨ (c' 110 5 = 1 ∧ 0 < cnt (lfr c W P) N))
section AskL
variable {sv : Nat → Int32} {L : Nat} {n : Nat} {lf : dlf} {c c' g g1 : cg} {o : cg × Option cv} {N W P k : Nat}
theorem as_hearl {D : Int} (h : AS 110 c W P k g) (hV : OHV c N) (hN : N ≤ 16) (hk : k < N) (hW : W ≤ 5) (hs : ohs c k = 0) (hp : ohp c k = P) (hD : (D = 0 ∧ ¬ dbk c P (k + 1)) ∨ (D = 1 ∧ dbk c P (k + 1))) (hh : zr sv L n 93 0 (darg 0 [(4, 110), (4, 29 + ((k : Int)))]) [] (cup g 110 4 D) (g1, none)) : AS 110 c W P (k + 1) g1 := by
  obtain ⟨a1, ⟨a2, a3⟩, ⟨m, b1, b2, b3⟩, a4, a5, ⟨e, d1, d2, d3⟩, -⟩ := h
  obtain ⟨v1, v2, v3, v4, v5⟩ := hV k hk
  have hx := a4 (oht c k) (by omega)
  have hy := a5 (ohq c k) (by omega) (oht c k) (by omega)
  have lx := cnt_le (f := oth c W P (oht c k)) k
  have ly := cnt_le (f := alkx c W P (ohq c k) (oht c k)) k
  have st : isof c P (oht c k) k = true := isof_i.mpr ⟨hs, hp, rfl⟩
  have G : ∀ i j : Nat, i ≠ 110 → cup g 110 4 D i j = g i j := fun i j hi => cup_ne (fun q => hi q.1)
  have hhh := t_hear_110 (x := cnt (oth c W P (oht c k)) k) (y := cnt (alkx c W P (ohq c k) (oht c k)) k) (tw := c (17 + 2 * W) 4) hW (show P ≤ 5 by omega) v2 v3 v4 v5 (by omega) (by omega) (by omega) (by rw [cup_ne (by omega)]; exact a2) (by rw [cup_ne (by omega)]; exact a3) (v1.fr (fun j => by rw [G _ _ (by omega)]; exact a1 _ _ (by omega) (by omega) (by omega))) (by rw [G _ _ (by omega)]; exact a1 _ _ (by omega) (by omega) (by omega)) (by rw [G _ _ (by omega)]; exact hx) (by rw [G _ _ (by omega)]; exact hy) hh rfl rfl
  rcases hhh with ⟨⟨z1, z2⟩, q⟩ | ⟨⟨z1, z2⟩, q⟩ | ⟨z, q⟩
  · have q := oV q
    have nw : ohw c k ≠ W := nt_ne z1
    refine ⟨fun i j i1 i2 i3 => by rw [q, cup_ne (by omega), cup_ne (by omega), G _ _ i1]; exact a1 i j i1 i2 i3, ⟨by rw [q, cup_ne (by omega), cup_ne (by omega), cup_ne (by omega)]; exact a2, by rw [q, cup_ne (by omega), cup_ne (by omega), cup_ne (by omega)]; exact a3⟩, ⟨m, by rw [q, cup_ne (by omega), cup_ne (by omega), cup_ne (by omega)]; exact b1, b2, fun T hT => iff_same (b3 T hT) (bf (fun q => by have := spk_i.mp q; omega))⟩, fun T hT => ?_, fun Q hQ T hT => ?_, ⟨e, by rw [q, cup_ne (by omega), cup_ne (by omega), cup_ne (by omega)]; exact d1, d2, fun Q hQ T hT => iff_same (d3 Q hQ T hT) (bf (fun q => by have := (ech_i.mp q).2.2; omega))⟩, ?_⟩
    · rw [q, cup_ne (by omega)]
      by_cases e : T = oht c k
      · rw [e, cup_at, cnt_s (oth_i.mpr ⟨⟨hs, hp, rfl⟩, nw⟩)]; omega
      · rw [cup_ne (by omega), G _ _ (by omega)]
        exact cnt_same (a4 T hT) (bf (fun q => by have := (oth_i.mp q).1.2.2; omega))
    · rw [q]
      by_cases e : Q = ohq c k ∧ T = oht c k
      · rw [e.1, e.2, cup_at, cnt_s (alkx_i.mpr ⟨⟨hs, hp, rfl⟩, nw, rfl⟩)]; omega
      · rw [cup_ne (by omega), cup_ne (by omega), G _ _ (by omega)]
        exact cnt_same (a5 Q hQ T hT) (bf (fun q => by have := alkx_i.mp q; omega))
    · rw [q, cup_ne (by omega), cup_ne (by omega), cup_at]; exact hD
  · have q := oV q
    have nw : ohw c k ≠ W := nt_ne z1
    refine ⟨fun i j i1 i2 i3 => by rw [q, cup_ne (by omega), cup_ne (by omega), cup_ne (by omega), G _ _ i1]; exact a1 i j i1 i2 i3, ⟨by rw [q, cup_ne (by omega), cup_ne (by omega), cup_ne (by omega), cup_ne (by omega)]; exact a2, by rw [q, cup_ne (by omega), cup_ne (by omega), cup_ne (by omega), cup_ne (by omega)]; exact a3⟩, ⟨m, by rw [q, cup_ne (by omega), cup_ne (by omega), cup_ne (by omega), cup_ne (by omega)]; exact b1, b2, fun T hT => iff_same (b3 T hT) (bf (fun q => by have := spk_i.mp q; omega))⟩, fun T hT => ?_, fun Q hQ T hT => ?_, ⟨e ||| 2 ^ (ohq c k + 5 * oht c k), ?_, tblt d2 (by omega), fun Q hQ T hT => ?_⟩, ?_⟩
    · rw [q, cup_ne (by omega), cup_ne (by omega)]
      by_cases e : T = oht c k
      · rw [e, cup_at, cnt_s (oth_i.mpr ⟨⟨hs, hp, rfl⟩, nw⟩)]; omega
      · rw [cup_ne (by omega), G _ _ (by omega)]
        exact cnt_same (a4 T hT) (bf (fun q => by have := (oth_i.mp q).1.2.2; omega))
    · rw [q, cup_ne (by omega)]
      by_cases e : Q = ohq c k ∧ T = oht c k
      · rw [e.1, e.2, cup_at, cnt_s (alkx_i.mpr ⟨⟨hs, hp, rfl⟩, nw, rfl⟩)]; omega
      · rw [cup_ne (by omega), cup_ne (by omega), G _ _ (by omega)]
        exact cnt_same (a5 Q hQ T hT) (bf (fun q => by have := alkx_i.mp q; omega))
    · rw [q, cup_at, cup_ne (by omega), d1, show ((ohq c k : Int) + 5 * (oht c k : Int)) = ((ohq c k + 5 * oht c k : Nat) : Int) by omega, lsl1 _ (by omega), lor_n (lt40 d2) (lt40 (Nat.pow_lt_pow_right (by decide) (by omega)))]
    · rw [tbor, Bool.or_eq_true, d3 Q hQ T hT, cnt_p1, decide_eq_true_iff]
      constructor
      · rintro (x | x)
        · exact Or.inl x
        · exact Or.inr (ech_i.mpr ⟨⟨hs, hp, by omega⟩, ⟨nw, by omega⟩, z2⟩)
      · rintro (x | x)
        · exact Or.inl x
        · have := ech_i.mp x
          exact Or.inr (by omega)
    · rw [q, cup_ne (by omega), cup_ne (by omega), cup_ne (by omega), cup_at]; exact hD
  · have q := oV q
    have nw : ohw c k = W := by omega
    refine ⟨fun i j i1 i2 i3 => by rw [q, cup_ne (by omega), G _ _ i1]; exact a1 i j i1 i2 i3, ⟨by rw [q, cup_ne (by omega), cup_ne (by omega)]; exact a2, by rw [q, cup_ne (by omega), cup_ne (by omega)]; exact a3⟩, ⟨m ||| 2 ^ oht c k, ?_, tblt b2 (by omega), fun T hT => ?_⟩, fun T hT => ?_, fun Q hQ T hT => ?_, ⟨e, by rw [q, cup_ne (by omega), cup_ne (by omega)]; exact d1, d2, fun Q hQ T hT => iff_same (d3 Q hQ T hT) (bf (fun q => by have := (ech_i.mp q).2.1; omega))⟩, ?_⟩
    · have p8 : (2 : Nat) ^ 8 ≤ 2 ^ 30 := by decide
      rw [q, cup_at, cup_ne (by omega), b1, bsl1 _ (by omega), bor_n (Nat.lt_of_lt_of_le b2 p8) (Nat.pow_lt_pow_right (by decide) (by omega))]
    · rw [tbor, Bool.or_eq_true, b3 T hT, cnt_p1, decide_eq_true_iff]
      constructor
      · rintro (x | x)
        · exact Or.inl x
        · exact Or.inr (spk_i.mpr ⟨hs, hp, x, nw⟩)
      · rintro (x | x)
        · exact Or.inl x
        · exact Or.inr (spk_i.mp x).2.2.1
    · rw [q, cup_ne (by omega), G _ _ (by omega)]
      exact cnt_same (a4 T hT) (bf (fun q => by have := (oth_i.mp q).2; omega))
    · rw [q, cup_ne (by omega), G _ _ (by omega)]
      exact cnt_same (a5 Q hQ T hT) (bf (fun q => by have := (alkx_i.mp q).2.1; omega))
    · rw [q, cup_ne (by omega), cup_at]; exact hD
end AskL
section AskL2
variable {sv : Nat → Int32} {L : Nat} {n : Nat} {lf : dlf} {c c' g g1 : cg} {o : cg × Option cv} {N W P k nq : Nat}
theorem ask_okl (hW : W ≤ 5) (hP : P ≤ 5) (hN16 : N ≤ 16) (hN : c 3 9 = (N : Int)) (hV : OHV c N) (hWq : W < nq) (hF : FR6 c nq) (h : zr sv L n 91 0 lf [] c o) (h0 : lf 0 = (4, 110)) (h1 : lf 1 = (0, (W : Int))) (h2 : lf 2 = (0, (P : Int))) : ∃ c', o = (c', none) ∧ ASDl c c' N W P := by
  obtain ⟨lf1, a0, a3, h⟩ := t_ask0_110 hW hP h h0 h1 h2
  have s27 : ∃ n lf g, lf 0 = (4, 110) ∧ lf 3 = (0, 0) ∧ (AFR 110 c g ∧ g 110 1 = (W : Int) ∧ g 110 2 = (P : Int) ∧ g 110 3 = 0 ∧ g 110 8 = 0 ∧ g 110 4 = 0 ∧ ∀ T : Nat, T < 8 → g 111 T = 0) ∧ zr sv L n 91 48 lf [] g o := by
    refine zloop (fun k lf g => lf 0 = (4, 110) ∧ lf 3 = (0, (k : Int)) ∧ k ≤ 8 ∧ AFR 110 c g ∧ g 110 1 = (W : Int) ∧ g 110 2 = (P : Int) ∧ g 110 3 = 0 ∧ g 110 8 = 0 ∧ g 110 4 = 0 ∧ ∀ T : Nat, T < k → g 111 T = 0) _ ?_ n 0 lf1 _ ⟨a0, a3, by decide, fun i j i1 _ _ => by rw [cup_ne (by omega), cup_ne (by omega), cup_ne (by omega), cup_ne (by omega), cup_ne (by omega)], by rw [cup_ne (by omega), cup_ne (by omega), cup_ne (by omega), cup_ne (by omega), cup_at], by rw [cup_ne (by omega), cup_ne (by omega), cup_ne (by omega), cup_at], by rw [cup_ne (by omega), cup_ne (by omega), cup_at], by rw [cup_ne (by omega), cup_at], by rw [cup_at], fun T hT => absurd hT (Nat.not_lt_zero T)⟩ h
    intro n k lf g ⟨b0, b3, bk, b4, b5, b6, b7, b8, b9, b10⟩ h
    by_cases hk : k < 8
    · obtain ⟨lf2, y0, y3, h⟩ := t_ask27s_110 (by omega) h b0 b3
      exact Or.inr ⟨lf2, _, ⟨y0, by rw [y3]; exact congrArg _ (Int.add_comm _ _), by omega, fun i j i1 i2 i3 => by rw [cup_ne (by omega)]; exact b4 i j i1 i2 i3, by rw [cup_ne (by omega)]; exact b5, by rw [cup_ne (by omega)]; exact b6, by rw [cup_ne (by omega)]; exact b7, by rw [cup_ne (by omega)]; exact b8, by rw [cup_ne (by omega)]; exact b9, fun T hT => by
        by_cases e : T = k
        · rw [e, cup_at]
        · rw [cup_ne (by omega)]; exact b10 T (by omega)⟩, h⟩
    · have : k = 8 := by omega
      subst this
      obtain ⟨lf2, y0, y3, h⟩ := t_ask27e_110 h b0 b3
      exact Or.inl ⟨n, lf2, g, y0, y3, ⟨b4, b5, b6, b7, b8, b9, b10⟩, h⟩
  obtain ⟨n, lf2, g, c0, c3, hg, h⟩ := s27
  have s48 : ∃ n lf g, lf 0 = (4, 110) ∧ lf 3 = (2, 0) ∧ lf 5 = (0, 0) ∧ lf 6 = (0, 0) ∧ (AFR 110 c g ∧ g 110 1 = (W : Int) ∧ g 110 2 = (P : Int) ∧ g 110 3 = 0 ∧ g 110 8 = 0 ∧ g 110 4 = 0 ∧ (∀ T : Nat, T < 8 → g 111 T = 0) ∧ ∀ T : Nat, T < 40 → g 112 T = 0) ∧ zr sv L n 91 75 lf [] g o := by
    refine zloop (fun k lf g => lf 0 = (4, 110) ∧ lf 3 = (0, (k : Int)) ∧ k ≤ 40 ∧ AFR 110 c g ∧ g 110 1 = (W : Int) ∧ g 110 2 = (P : Int) ∧ g 110 3 = 0 ∧ g 110 8 = 0 ∧ g 110 4 = 0 ∧ (∀ T : Nat, T < 8 → g 111 T = 0) ∧ ∀ T : Nat, T < k → g 112 T = 0) _ ?_ n 0 lf2 g ⟨c0, c3, by decide, hg.1, hg.2.1, hg.2.2.1, hg.2.2.2.1, hg.2.2.2.2.1, hg.2.2.2.2.2.1, hg.2.2.2.2.2.2, fun T hT => absurd hT (Nat.not_lt_zero T)⟩ h
    intro n k lf g ⟨b0, b3, bk, b4, b5, b6, b7, b8, b9, b10, b11⟩ h
    by_cases hk : k < 40
    · obtain ⟨lf2, y0, y3, h⟩ := t_ask48s_110 (by omega) h b0 b3
      exact Or.inr ⟨lf2, _, ⟨y0, by rw [y3]; exact congrArg _ (Int.add_comm _ _), by omega, fun i j i1 i2 i3 => by rw [cup_ne (by omega)]; exact b4 i j i1 i2 i3, by rw [cup_ne (by omega)]; exact b5, by rw [cup_ne (by omega)]; exact b6, by rw [cup_ne (by omega)]; exact b7, by rw [cup_ne (by omega)]; exact b8, by rw [cup_ne (by omega)]; exact b9, fun T hT => by rw [cup_ne (by omega)]; exact b10 T hT, fun T hT => by
        by_cases e : T = k
        · rw [e, cup_at]
        · rw [cup_ne (by omega)]; exact b11 T (by omega)⟩, h⟩
    · have : k = 40 := by omega
      subst this
      obtain ⟨lf2, y0, y3, y5, y6, h⟩ := t_ask48e_110 h b0 b3
      exact Or.inl ⟨n, lf2, g, y0, y3, y5, y6, ⟨b4, b5, b6, b7, b8, b9, b10, b11⟩, h⟩
  obtain ⟨n, lf3, g, d0, d3, d5, d6, ⟨e1, e2, e3, e4, e5, e6, e7, e8⟩, h⟩ := s48
  have z0 : ∀ {a : Nat}, (0 : Nat).testBit a = true ↔ 0 < (0 : Nat) := fun {a} => by rw [Nat.zero_testBit]; exact ⟨fun q => (by cases q), fun q => absurd q (Nat.lt_irrefl 0)⟩
  refine zloop (fun k lf g => k ≤ N ∧ lf 0 = (4, 110) ∧ lf 6 = (0, (k : Int)) ∧ AS 110 c W P k g ∧ ASL c P k lf) _ ?_ n 0 lf3 g ⟨by omega, d0, d6, ⟨e1, ⟨e2, e3⟩, ⟨0, e4, by decide, fun _ _ => z0⟩, e7, fun Q hQ T hT => e8 _ (by omega), ⟨0, e5, by decide, fun _ _ _ _ => z0⟩, Or.inl ⟨e6, fun ⟨_, i, _, hi, _⟩ => absurd hi (Nat.not_lt_zero i)⟩⟩, ⟨0, d3, by decide, fun _ _ _ _ => z0⟩, 0, d5, wset0⟩ h
  intro n k lf g ⟨hk, b0, b6, hA, hB⟩ h
  have gN : g 3 9 = (N : Int) := by rw [hA.1 3 9 (by decide) (by decide) (by decide)]; exact hN
  by_cases hlt : k < N
  · obtain ⟨v1, v2, v3, v4, v5⟩ := hV k hlt
    have hA' := hA
    have hB' := hB
    obtain ⟨a1, ⟨a2, a3⟩, -, -, -, -, a7⟩ := hA
    obtain ⟨⟨m, x1, x2, x3⟩, l, y1, y2⟩ := hB
    have hnxt : ∀ {D : Int} {lf' : dlf} {g1 : cg} {l' : Nat}, ohs c k = 0 → ohp c k = P → ((D = 0 ∧ ¬ dbk c P (k + 1)) ∨ (D = 1 ∧ dbk c P (k + 1))) → wset c (lip c P) (k + 1) l' → zr sv L n 93 0 (darg 0 [(4, 110), (4, 29 + ((k : Int)))]) [] (cup g 110 4 D) (g1, none) → lf' 0 = (4, 110) → lf' 3 = (2, lor (m : Int) (lsl 1 ((ohq c k : Int) + 5 * (oht c k : Int)))) → lf' 5 = (0, (l' : Int)) → lf' 6 = (0, 1 + (k : Int)) → (k + 1 ≤ N ∧ lf' 0 = (4, 110) ∧ lf' 6 = (0, ((k + 1 : Nat) : Int)) ∧ AS 110 c W P (k + 1) g1 ∧ ASL c P (k + 1) lf') := by
      intro D lf' g1 l' hs hp hD hl' hh w0 w3 w5 w6
      refine ⟨hlt, w0, by rw [w6]; exact congrArg _ (Int.add_comm _ _), as_hearl hA' hV hN16 hlt hW hs hp hD hh, ⟨m ||| 2 ^ (ohq c k + 5 * oht c k), ?_, tblt x2 (by omega), fun Q hQ T hT => ?_⟩, l', w5, hl'⟩
      · rw [w3, show ((ohq c k : Int) + 5 * (oht c k : Int)) = ((ohq c k + 5 * oht c k : Nat) : Int) by omega, lsl1 _ (by omega), lor_n (lt40 x2) (lt40 (Nat.pow_lt_pow_right (by decide) (by omega)))]
      · rw [tbor, Bool.or_eq_true, x3 Q hQ T hT, cnt_p1, decide_eq_true_iff]
        constructor
        · rintro (x | x)
          · exact Or.inl x
          · exact Or.inr (says_i.mpr ⟨hs, hp, by omega, by omega⟩)
        · rintro (x | x)
          · exact Or.inl x
          · have := says_i.mp x
            exact Or.inr (by omega)
    have hX := l31 (t := oht c k) (lt40 x2) (by omega)
    have hsd := said_o hV hlt x2 x3
    have e2 := lsl1 (ohq c k) (by omega)
    have stp := t_ask75s_110 hW hP v2 v3 v4 v5 (by omega) hN16 gN a2 a3 (v1.fr (fun j => a1 _ _ (by omega) (by omega) (by omega))) (show g (18 + 2 * ohp c k) (oht c k) = trh c (ohp c k) (oht c k) from a1 _ _ (by omega) (by omega) (by omega)) hlt h b0 x1 y1 b6
    rw [hX, e2] at stp
    generalize hXe : (m >>> (5 * oht c k)) % 32 = X at stp hsd
    generalize hYe : 2 ^ ohq c k = Y at stp hsd
    have no : ohs c k = 0 → ohp c k = P → (csgn ((X : Int) - 0) = 0 ∨ (csgn ((X : Int) - 0) ≠ 0 ∧ csgn ((X : Int) - (Y : Int)) = 0)) → ∀ D : Int, D = bor (g 110 4) 0 → ((D = 0 ∧ ¬ dbk c P (k + 1)) ∨ (D = 1 ∧ dbk c P (k + 1))) := by
      intro hs hp hx D hD
      have hn : ¬ (X ≠ 0 ∧ X ≠ Y) := by
        rintro ⟨p1, p2⟩
        rcases hx with hx | ⟨-, hx⟩
        · have := csgn_z.mp hx; omega
        · have := csgn_z.mp hx; omega
      rw [dbk_s hs hp, ← hsd]
      rcases a7 with ⟨q1, q2⟩ | ⟨q1, q2⟩
      · exact Or.inl ⟨by rw [hD, q1]; rfl, fun q => q.elim q2 hn⟩
      · exact Or.inr ⟨by rw [hD, q1]; rfl, Or.inl q2⟩
    have hyes : ohs c k = 0 → ohp c k = P → csgn ((X : Int) - 0) ≠ 0 → csgn ((X : Int) - (Y : Int)) ≠ 0 → ∀ D : Int, D = bor (g 110 4) 1 → ((D = 0 ∧ ¬ dbk c P (k + 1)) ∨ (D = 1 ∧ dbk c P (k + 1))) := by
      intro hs hp h1 h2 D hD
      have hn : X ≠ 0 ∧ X ≠ Y := ⟨fun e => h1 (csgn_z.mpr (by omega)), fun e => h2 (csgn_z.mpr (by omega))⟩
      refine Or.inr ⟨?_, (dbk_s hs hp).mpr (Or.inr (hsd.mp hn))⟩
      rcases a7 with ⟨q1, -⟩ | ⟨q1, -⟩ <;> rw [hD, q1] <;> rfl
    have lt : ohs c k = 0 → ohp c k = P → trh c (ohp c k) (oht c k) = (ohq c k : Int) → ∀ z : Int, z = bor (l : Int) 0 → ∃ l' : Nat, z = (l' : Int) ∧ wset c (lip c P) (k + 1) l' := fun hs hp hv z hz => ⟨l, by rw [hz, bor0 _ y2.1], wset_n y2 (bf (fun q => (lip_i.mp q).2.2 hv))⟩
    have ll : ohs c k = 0 → ohp c k = P → trh c (ohp c k) (oht c k) ≠ (ohq c k : Int) → ∀ z : Int, z = bor (l : Int) (bsl 1 (ohw c k : Int)) → ∃ l' : Nat, z = (l' : Int) ∧ wset c (lip c P) (k + 1) l' := fun hs hp hv z hz => ⟨_, by rw [hz, (bor6 _ y2.1 _ (by omega)).1], wset_s y2 (lip_i.mpr ⟨hs, hp, hv⟩) v2⟩
    rcases stp with ⟨z, lf2, w0, w3, w5, w6, h⟩ | ⟨z, g2, kh, lf2, w0, w3, w5, w6, h⟩ | ⟨z, g2, kh, lf2, w0, w3, w5, w6, h⟩ | ⟨z, g2, kh, lf2, w0, w3, w5, w6, h⟩ | ⟨z, g2, kh, lf2, w0, w3, w5, w6, h⟩
    · exact Or.inr ⟨lf2, _, ⟨hlt, w0, by rw [w6]; exact congrArg _ (Int.add_comm _ _), as_skip hA' (by omega), asl_skip hB' (by rw [w3, x1]) (by rw [w5, y1]) (by omega)⟩, h⟩
    · have hs : ohs c k = 0 := by rcases z with z | z <;> exact z.1
      have hp : ohp c k = P := by rcases z with z | z <;> have := z.2.1 <;> omega
      obtain ⟨l', q1, q2⟩ := ll hs hp (by rcases z with ⟨-, -, -, z⟩ | ⟨-, -, -, -, z⟩ <;> exact z) _ rfl
      rw [q1] at w5
      exact Or.inr ⟨lf2, _, hnxt hs hp (no hs hp (by rcases z with ⟨-, -, z, -⟩ | ⟨-, -, z, z', -⟩; exact Or.inl z; exact Or.inr ⟨z, z'⟩) _ rfl) q2 kh w0 w3 w5 w6, h⟩
    · have hs : ohs c k = 0 := by rcases z with z | z <;> exact z.1
      have hp : ohp c k = P := by rcases z with z | z <;> have := z.2.1 <;> omega
      obtain ⟨l', q1, q2⟩ := lt hs hp (by rcases z with ⟨-, -, -, z⟩ | ⟨-, -, -, -, z⟩ <;> exact z) _ rfl
      rw [q1] at w5
      exact Or.inr ⟨lf2, _, hnxt hs hp (no hs hp (by rcases z with ⟨-, -, z, -⟩ | ⟨-, -, z, z', -⟩; exact Or.inl z; exact Or.inr ⟨z, z'⟩) _ rfl) q2 kh w0 w3 w5 w6, h⟩
    · obtain ⟨hs, hp, z1, z2, z3⟩ := z
      have hp : ohp c k = P := by omega
      obtain ⟨l', q1, q2⟩ := ll hs hp z3 _ rfl
      rw [q1] at w5
      exact Or.inr ⟨lf2, _, hnxt hs hp (hyes hs hp z1 z2 _ rfl) q2 kh w0 w3 w5 w6, h⟩
    · obtain ⟨hs, hp, z1, z2, z3⟩ := z
      have hp : ohp c k = P := by omega
      obtain ⟨l', q1, q2⟩ := lt hs hp z3 _ rfl
      rw [q1] at w5
      exact Or.inr ⟨lf2, _, hnxt hs hp (hyes hs hp z1 z2 _ rfl) q2 kh w0 w3 w5 w6, h⟩
  · have ek : k = N := by omega
    subst ek
    have hA0 := hA
    obtain ⟨a1, ⟨a2, a3⟩, -⟩ := hA
    obtain ⟨⟨m, x1, -, -⟩, l, y1, y2⟩ := hB
    obtain ⟨fr, f1, f2⟩ := hF W hWq
    have hfr : g (17 + 2 * W) 5 = (fr : Int) := by rw [a1 _ _ (by omega) (by omega) (by omega)]; exact f2
    have hky : ban (fr : Int) (l : Int) ≠ 0 ↔ 0 < cnt (lfr c W P) k := by
      rw [and6 fr f1 l y2.1, cnt_pos]
      constructor
      · intro ⟨v, w1, w2, w3⟩
        obtain ⟨i, i1, i2, i3⟩ := (y2.2 v w1).mp w3
        have x := lip_i.mp i2
        refine ⟨i, i1, lfr_i.mpr ⟨x.1, x.2.2, x.2.1, ?_⟩⟩
        rw [f2, i3]
        exact ((isb6 fr f1 v w1).1).mpr w2
      · intro ⟨i, i1, i2⟩
        have x := lfr_i.mp i2
        obtain ⟨-, v2, -, -, -⟩ := hV i i1
        have b := x.2.2.2
        rw [f2] at b
        exact ⟨ohw c i, by omega, ((isb6 fr f1 _ (by omega)).1).mp b, (y2.2 _ (by omega)).mpr ⟨i, i1, lip_i.mpr ⟨x.1, x.2.2.1, x.2.1⟩, rfl⟩⟩
    have hput : ∀ z : Int, ((z = 0 ∧ ¬ 0 < cnt (lfr c W P) k) ∨ (z = 1 ∧ 0 < cnt (lfr c W P) k)) → ASDl c (cup g 110 5 z) k W P := by
      intro z hz
      obtain ⟨b1, ⟨b2, b3⟩, ⟨m1, c1, c2, c3⟩, b5, b6, ⟨m2, d1, d2, d3⟩, b8⟩ := hA0
      refine ⟨⟨fun i j i1 i2 i3 => by rw [cup_ne (by omega)]; exact b1 i j i1 i2 i3, ⟨by rw [cup_ne (by omega)]; exact b2, by rw [cup_ne (by omega)]; exact b3⟩, ⟨m1, by rw [cup_ne (by omega)]; exact c1, c2, c3⟩, fun T hT => by rw [cup_ne (by omega)]; exact b5 T hT, fun Q hQ T hT => by rw [cup_ne (by omega)]; exact b6 Q hQ T hT, ⟨m2, by rw [cup_ne (by omega)]; exact d1, d2, d3⟩, by rw [cup_ne (by omega)]; exact b8⟩, by rw [cup_at]; exact hz⟩
    rcases t_ask75e_110 hW hP hN16 hN16 gN a2 a3 hfr (Nat.le_refl _) h b0 x1 y1 b6 with ⟨z, e⟩ | ⟨z, e⟩
    · exact Or.inl ⟨_, e, hput 0 (Or.inl ⟨rfl, fun q => hky.mpr q z⟩)⟩
    · exact Or.inl ⟨_, e, hput 1 (Or.inr ⟨rfl, hky.mp z⟩)⟩
end AskL2
section HindL
variable {sv : Nat → Int32} {L : Nat} {n : Nat} {lf : dlf} {c c' : cg} {o : cg × Option cv} {N W P Q T nq : Nat}
theorem echo_il (hA : AS 110 c W P N c') (hV : OHV c N) (hQ : Q ≤ 4) (hT : T ≤ 7) (htw : c (17 + 2 * W) 4 ≠ (W : Int)) : csgn (lan (lsr (c' 110 8) ((Q : Int) + 5 * (T : Int))) 1 - 0) ≠ 0 ↔ c (17 + 2 * W) 4 ≠ -1 ∧ 0 < cnt (bkd c P Q T (c (17 + 2 * W) 4)) N := by
  obtain ⟨-, -, -, -, -, ⟨m, d1, d2, d3⟩, -⟩ := hA
  rw [d1, show ((Q : Int) + 5 * (T : Int)) = ((Q + 5 * T : Nat) : Int) by omega, lbit (lt40 d2) (by omega), d3 Q (by omega) T (by omega), cnt_pos, cnt_pos]
  constructor
  · intro ⟨i, i1, i2⟩
    obtain ⟨x1, x2, x3⟩ := ech_i.mp i2
    exact ⟨by omega, i, i1, bkd_i.mpr ⟨⟨x1.1, x1.2.1, x1.2.2, x2.2⟩, Or.inr x3⟩⟩
  · intro ⟨hn, i, i1, i2⟩
    obtain ⟨x1, x2⟩ := bkd_i.mp i2
    have x3 : (ohw c i : Int) = c (17 + 2 * W) 4 := x2.resolve_left hn
    exact ⟨i, i1, ech_i.mpr ⟨⟨x1.1, x1.2.1, x1.2.2.1⟩, ⟨fun e => htw (by rw [← x3, e]), x1.2.2.2⟩, x3⟩⟩
theorem price_okl (hA : ASDl c c' N W P) (hV : OHV c N) (hw : WOK c W) (hW : W ≤ 5) (hP : P ≤ 5) (hQ : Q ≤ 4) (hT : T ≤ 7) (hN16 : N ≤ 16) (h : zr sv L n 96 0 lf [] c' o) (h0 : lf 0 = (4, 110)) (h1 : lf 1 = (0, (Q : Int))) (h2 : lf 2 = (0, (T : Int))) : o = (c', some (0, fees c N W P Q T)) := by
  have hE := echo_il hA.1 hV hQ hT hw.2.1
  obtain ⟨⟨a1, ⟨a2, a3⟩, -, a5, a6, -, -⟩, -⟩ := hA
  have lx := cnt_le (f := oth c W P T) N
  have ly := cnt_le (f := alkx c W P Q T) N
  have F : ∀ i j : Nat, i < 110 → c' i j = c i j := fun i j hi => a1 i j (by omega) (by omega) (by omega)
  have hp := t_price_110 (x := cnt (oth c W P T) N) (y := cnt (alkx c W P Q T) N) (bi := c (17 + 2 * W) 3) (v := trh c P T) hW hP hQ hT (by omega) (by omega) a2 a3 (F _ _ (by omega)) (a5 T (by omega)) (a6 Q (by omega) T (by omega)) (F _ _ (by omega)) h h0 h1 h2
  rw [oag, F 3 5 (by decide), F 3 6 (by decide)] at hp
  rcases hp with ⟨z, e⟩ | ⟨⟨z1, z2, z3⟩, e⟩ | ⟨⟨z1, z2, z3⟩, e⟩
  · rw [e, fees_0 (by rcases hw.1 with q | q <;> omega)]
  · rw [e, fees_1 z2 (by omega) (fun q => hE.mpr q z3)]; rfl
  · rw [e, fees_2 z2 (by omega) (hE.mp z3)]; rfl
theorem hind_okl (hA : ASDl c c' N W P) (hV : OHV c N) (hw : WOK c W) (hW : W ≤ 5) (hP : P ≤ 5) (hQ : Q ≤ 4) (hT : T ≤ 7) (hN16 : N ≤ 16) (hN : c 3 9 = (N : Int)) (h : zr sv L n 94 0 lf [] c' o) (h0 : lf 0 = (4, 110)) (h1 : lf 1 = (0, (Q : Int))) (h2 : lf 2 = (0, (T : Int))) : o = (c', some (0, whys c N W P Q T)) := by
  have hE := echo_il hA.1 hV hQ hT hw.2.1
  obtain ⟨⟨a1, ⟨a2, a3⟩, ⟨m, b1, b2, b3⟩, a5, a6, -, a8⟩, a9⟩ := hA
  have lx := cnt_le (f := oth c W P T) N
  have ly := cnt_le (f := alkx c W P Q T) N
  have F : ∀ i j : Nat, i < 110 → c' i j = c i j := fun i j hi => a1 i j (by omega) (by omega) (by omega)
  have hp := t_hind_110 (x := cnt (oth c W P T) N) (y := cnt (alkx c W P Q T) N) (bi := c (17 + 2 * W) 3) (v := trh c P T) (pu := c (17 + 2 * W) 1) hW hP hQ hT hN16 (by omega) (by omega) (by rw [F _ _ (by decide)]; exact hN) a2 a3 (F _ _ (by omega)) (a5 T (by omega)) (a6 Q (by omega) T (by omega)) (F _ _ (by omega)) (F _ _ (by omega)) h h0 h1 h2
  have p8 : (2 : Nat) ^ 8 ≤ 2 ^ 30 := by decide
  have hb := bbit (a := m) (s := T) (Nat.lt_of_lt_of_le b2 p8) (by omega)
  rw [oag, F 3 5 (by decide), F 3 6 (by decide), b1, hb] at hp
  have hsp : ((m.testBit T).toNat : Int) = 0 → ¬ 0 < cnt (spk c W P T) N := fun e q => by
    rw [← b3 T (by omega)] at q
    rw [q] at e
    cases e
  have hsp' : ((m.testBit T).toNat : Int) ≠ 0 → 0 < cnt (spk c W P T) N := fun e => by
    rw [← b3 T (by omega)]
    cases hq : m.testBit T with
    | true => rfl
    | false => rw [hq] at e; exact absurd rfl e
  have hdb : dbk c P N ↔ 0 < cnt (dbh c P N) 8 := by
    rw [cnt_pos]
    constructor
    · intro ⟨X, i, j, i1, j1, i2, j2, hn⟩
      obtain ⟨-, -, -, -, v5⟩ := hV i i1
      have x := isof_i.mp i2
      exact ⟨X, by omega, (dbh_i hV).mpr ⟨i, i1, j, j1, i2, j2, hn⟩⟩
    · intro ⟨X, hX, hx⟩
      obtain ⟨i, i1, j, j1, i2, j2, hn⟩ := (dbh_i hV).mp hx
      exact ⟨X, i, j, i1, j1, i2, j2, hn⟩
  have hd0 : c' 110 4 = 0 → cnt (dbh c P N) 8 = 0 := fun e => by
    rcases a8 with ⟨x, y⟩ | ⟨x, y⟩
    · rw [hdb] at y; omega
    · omega
  have hd1 : c' 110 4 ≠ 0 → cnt (dbh c P N) 8 ≠ 0 := fun e => by
    rcases a8 with ⟨x, y⟩ | ⟨x, y⟩
    · exact absurd x e
    · rw [hdb] at y; omega
  have hl0 : c' 110 5 = 0 → ¬ 0 < cnt (lfr c W P) N := fun e => by
    rcases a9 with ⟨x, y⟩ | ⟨x, y⟩
    · exact y
    · omega
  have hl1 : c' 110 5 ≠ 0 → 0 < cnt (lfr c W P) N := fun e => by
    rcases a9 with ⟨x, y⟩ | ⟨x, y⟩
    · exact absurd x e
    · exact y
  have hpu := hw.2.2
  have i1 : c (17 + 2 * W) 3 ≠ 0 → fees c N W P Q T = 0 := fun e => fees_0 (Or.inr (hw.1.resolve_left e))
  have i2 : trh c P T ≠ (Q : Int) → c (17 + 2 * W) 3 = 0 → csgn (lan (lsr (c' 110 8) ((Q : Int) + 5 * (T : Int))) 1 - 0) = 0 → fees c N W P Q T = w32 (c 3 5 + w32 (c 3 6 * (cnt (gns c W P Q T) N : Int))) := fun e1 e2 e3 => fees_1 e1 (by omega) (fun q => hE.mpr q e3)
  have i3 : trh c P T ≠ (Q : Int) → c (17 + 2 * W) 3 = 0 → csgn (lan (lsr (c' 110 8) ((Q : Int) + 5 * (T : Int))) 1 - 0) ≠ 0 → fees c N W P Q T = qdi (w32 (w32 (c 3 5 + w32 (c 3 6 * (cnt (gns c W P Q T) N : Int))) + 1)) 2 := fun e1 e2 e3 => fees_2 e1 (by omega) (hE.mp e3)
  have hz0 : (N : Int) < 16 → ((m.testBit T).toNat : Int) = 0 → trh c P T ≠ (Q : Int) → (trh c P T = -1 ∨ c' 110 4 ≠ 0) → c' 110 5 = 0 → fees c N W P Q T ≤ c (17 + 2 * W) 1 → whys c N W P Q T = 0 := by
    intro x1 x2 x3 x4 x5 x6
    unfold whys
    rw [if_neg (by omega), if_neg (hsp x2), if_neg (fun q => x4.elim q.2.1 (fun y => hd1 y q.2.2)), if_neg (fun q => hl0 x5 q.2), if_neg (by omega)]
  have hz5 : (N : Int) < 16 → ((m.testBit T).toNat : Int) = 0 → trh c P T ≠ (Q : Int) → (trh c P T = -1 ∨ c' 110 4 ≠ 0) → c' 110 5 = 0 → c (17 + 2 * W) 1 < fees c N W P Q T → whys c N W P Q T = 5 := by
    intro x1 x2 x3 x4 x5 x6
    unfold whys
    rw [if_neg (by omega), if_neg (hsp x2), if_neg (fun q => x4.elim q.2.1 (fun y => hd1 y q.2.2)), if_neg (fun q => hl0 x5 q.2), if_pos (by omega)]
  have hz4 : (N : Int) < 16 → ((m.testBit T).toNat : Int) = 0 → trh c P T ≠ (Q : Int) → (trh c P T = -1 ∨ c' 110 4 ≠ 0) → c' 110 5 ≠ 0 → whys c N W P Q T = 4 := by
    intro x1 x2 x3 x4 x5
    unfold whys
    rw [if_neg (by omega), if_neg (hsp x2), if_neg (fun q => x4.elim q.2.1 (fun y => hd1 y q.2.2)), if_pos ⟨x3, hl1 x5⟩]
  rcases hp with ⟨z, e⟩ | ⟨z, e⟩ | ⟨z, e⟩ | ⟨⟨z1, z2, z3, z4, z5⟩, e⟩ | ⟨⟨z1, z2⟩, e⟩ | ⟨z, e⟩
  · rw [e]
    rcases z with ⟨z1, z2, z3, z4, z5, z6, z7⟩ | ⟨z1, z2, z3, z4, z5, z6, z7, z8⟩ | ⟨z1, z2, z3, z4, z5, z6, z7, z8⟩ | ⟨z1, z2, z3, z4, z4', z5, z6, z7⟩ | ⟨z1, z2, z3, z4, z4', z5, z6, z7, z8⟩ | ⟨z1, z2, z3, z4, z4', z5, z6, z7, z8⟩ | ⟨z1, z2, z3⟩
    · rw [hz0 z1 z2 z3 (Or.inl z4) z5 (by rw [i1 z6]; exact z7)]
    · rw [hz0 z1 z2 z3 (Or.inl z4) z5 (by rw [i2 z3 z6 z7]; exact z8)]
    · rw [hz0 z1 z2 z3 (Or.inl z4) z5 (by rw [i3 z3 z6 z7]; exact z8)]
    · rw [hz0 z1 z2 z3 (Or.inr z4') z5 (by rw [i1 z6]; exact z7)]
    · rw [hz0 z1 z2 z3 (Or.inr z4') z5 (by rw [i2 z3 z6 z7]; exact z8)]
    · rw [hz0 z1 z2 z3 (Or.inr z4') z5 (by rw [i3 z3 z6 z7]; exact z8)]
    · have hf : fees c N W P Q T = 0 := fees_0 (Or.inl z3)
      unfold whys
      rw [if_neg (by omega), if_neg (hsp z2), if_neg (fun q => q.1 z3), if_neg (fun q => q.1 z3), if_neg (by omega)]
  · rw [e]
    rcases z with ⟨z1, z2, z3, z4, z5, z6, z7⟩ | ⟨z1, z2, z3, z4, z5, z6, z7, z8⟩ | ⟨z1, z2, z3, z4, z5, z6, z7, z8⟩ | ⟨z1, z2, z3, z4, z4', z5, z6, z7⟩ | ⟨z1, z2, z3, z4, z4', z5, z6, z7, z8⟩ | ⟨z1, z2, z3, z4, z4', z5, z6, z7, z8⟩
    · omega
    · rw [hz5 z1 z2 z3 (Or.inl z4) z5 (by rw [i2 z3 z6 z7]; exact z8)]
    · rw [hz5 z1 z2 z3 (Or.inl z4) z5 (by rw [i3 z3 z6 z7]; exact z8)]
    · omega
    · rw [hz5 z1 z2 z3 (Or.inr z4') z5 (by rw [i2 z3 z6 z7]; exact z8)]
    · rw [hz5 z1 z2 z3 (Or.inr z4') z5 (by rw [i3 z3 z6 z7]; exact z8)]
  · rw [e]
    rcases z with ⟨z1, z2, z3, z4, z5⟩ | ⟨z1, z2, z3, z4, z4', z5⟩
    · rw [hz4 z1 z2 z3 (Or.inl z4) z5]
    · rw [hz4 z1 z2 z3 (Or.inr z4') z5]
  · rw [e]
    unfold whys
    rw [if_neg (by omega), if_neg (hsp z2), if_pos ⟨z3, z4, hd0 z5⟩]
  · rw [e]
    unfold whys
    rw [if_neg (by omega), if_pos (hsp' z2)]
  · rw [e]
    unfold whys
    rw [if_pos (by omega)]
end HindL
