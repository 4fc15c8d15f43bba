/-! TRIALS, row by row, and how they are lived, on both sides -/
def kdm : Nat → Nat
  | 0 => 14
  | 1 => 18
  | 2 => 16
  | 3 => 17
  | 4 => 1923
  | 5 => 1909
  | 6 => 1924
  | 7 => 20
  | 8 => 22
  | _ => 21
theorem kdm_f : ∀ K : Nat, K ≤ 10 → kdm K ≤ 1924 ∧ (kdm K = 21 ↔ 9 ≤ K) ∧ (kdm K = 20 ↔ K = 7) ∧ (kdm K = 22 ↔ K = 8) ∧ (K ≤ 3 → kdm K ≤ 18) := by decide +kernel
def TROW (c d : cg) (np nq r : Nat) : Prop := ∃ K : Nat, K ≤ 10 ∧ c 9 r = (K : Int) ∧ d 254 (260 + 8 * r) = (kdm K : Int) ∧ (K = 0 ∨ K = 1 ∨ K = 3 → ∃ W : Nat, W < nq ∧ c 10 r = (W : Int) ∧ d 254 (261 + 8 * r) = (W : Int)) ∧ (K = 5 → ∃ P : Nat, P < nq ∧ c 11 r = (P : Int) ∧ d 254 (261 + 8 * r) = (P : Int)) ∧ (K = 0 ∨ K = 1 ∨ K = 2 ∨ K = 6 → ∃ P : Nat, P < nq ∧ c 11 r = (P : Int) ∧ d 254 (262 + 8 * r) = (P : Int)) ∧ (K = 0 ∨ K = 2 ∨ K = 6 → ∃ Q T : Nat, Q < np ∧ T < 8 ∧ c 12 r = (Q : Int) ∧ d 254 (263 + 8 * r) = (Q : Int) ∧ c 13 r = (T : Int) ∧ d 254 (264 + 8 * r) = (T : Int)) ∧ (K = 4 ∨ K = 5 → c 14 r = d 254 (266 + 8 * r) ∧ c 13 r = d 254 (262 + 8 * r)) ∧ (K = 7 → ∃ v : Nat, 1 ≤ v ∧ v ≤ 99 ∧ c 13 r = (v : Int) ∧ d 254 (261 + 8 * r) = (v : Int)) ∧ (K = 4 ∨ K = 5 ∨ K = 6 ∨ K = 7 ∨ K = 9 ∨ K = 10 → d 254 (265 + 8 * r) = c 15 r)
def opn (c : cg) (o : Nat) : Prop := 4 ≤ c 9 o ∧ c 9 o ≤ 7
def PAI (c : cg) (nn o e : Nat) : Prop := o < e ∧ e < nn ∧ opn c o ∧ c 15 o = (e : Int) ∧ c 15 e = (o : Int) ∧ ((c 9 o = 7 ∧ c 9 e = 10) ∨ (c 9 o ≠ 7 ∧ c 9 e = 9)) ∧ ∃ D : Nat, D ≤ 2 ∧ c 16 o = (D : Int) ∧ c 16 e = (D : Int)
def NEST (c : cg) (nn : Nat) : Prop := (∀ e : Nat, e < nn → 9 ≤ c 9 e → ∃ o : Nat, PAI c nn o e) ∧ (∀ o : Nat, o < nn → opn c o → ∃ e : Nat, PAI c nn o e) ∧ ∀ o e o' e' : Nat, PAI c nn o e → PAI c nn o' e' → o < o' → o' < e → e' < e ∧ c 16 o < c 16 o'
def TRS (c d : cg) (np nq : Nat) : Prop := (c 8 0 = 0 ∧ d 254 7 = -1) ∨ (c 8 0 = 1 ∧ ∃ nn : Nat, nn ≤ 60 ∧ c 8 2 = (nn : Int) ∧ d 254 7 = (nn : Int) ∧ (∀ r : Nat, r < nn → TROW c d np nq r) ∧ NEST c nn)
/-- a LOOP that is being lived: as often is left on both sides -/
def LPR (c d : cg) (nn k : Nat) : Prop := ∀ o e : Nat, PAI c nn o e → c 9 o = 7 → o < k → k ≤ e → ∃ ro D : Nat, ro ≤ 98 ∧ d 267 o = (ro : Int) ∧ D ≤ 2 ∧ c 16 o = (D : Int) ∧ c 108 D = ((ro + 1 : Nat) : Int)
def LRE (c d : cg) (np nq nn st k : Nat) : Prop := (k ≤ nn ∧ st ≤ 300) ∧ (∃ N : Nat, CT c d np nq N ∧ GD c np nq N) ∧ DRW c d ∧ (c 107 11 = 0 ∧ d 268 4 = 0 ∧ c 107 7 = (st : Int) ∧ d 253 34 = (st : Int)) ∧ (c 8 2 = (nn : Int) ∧ d 254 7 = (nn : Int) ∧ nn ≤ 60) ∧ (∀ r : Nat, r < nn → TROW c d np nq r) ∧ NEST c nn ∧ LPR c d nn k ∧ ∀ o : Nat, PAI c nn o k → c 9 o = 7 → o + 1 ≠ k
def LHc (c c' : cg) : Prop := (∀ k j : Nat, ¬ (k = 3 ∧ 8 ≤ j ∧ j ≤ 9) → k < 17 → c' k j = c k j) ∧ (∀ i : Nat, i < 6 → c' (17 + 2 * i) 0 = c (17 + 2 * i) 0) ∧ ∀ k j : Nat, 127 ≤ k → c' k j = c k j
def LHd (d d' : cg) : Prop := (∀ k j : Nat, k ≠ 254 → k ≠ 267 → k ≠ 268 → ¬ (k = 253 ∧ 33 ≤ j ∧ j ≤ 34) → d' k j = d k j) ∧ ∀ j : Nat, (j = 7 ∨ 260 ≤ j) → d' 254 j = d 254 j
section Row
variable {c d c2 d2 c' d' : cg} {np nq nn st k k2 o e r : Nat}
theorem LHc.rf (c : cg) : LHc c c := ⟨fun _ _ _ _ => rfl, fun _ _ => rfl, fun _ _ _ => rfl⟩
theorem LHd.rf (d : cg) : LHd d d := ⟨fun _ _ _ _ _ _ => rfl, fun _ _ => rfl⟩
theorem LHc.trz (h : LHc c c2) (h' : LHc c2 c') : LHc c c' := ⟨fun k j i1 i2 => (h'.1 k j i1 i2).trans (h.1 k j i1 i2), fun i hi => (h'.2.1 i hi).trans (h.2.1 i hi), fun k j i1 => (h'.2.2 k j i1).trans (h.2.2 k j i1)⟩
theorem LHd.trz (h : LHd d d2) (h' : LHd d2 d') : LHd d d' := ⟨fun k j i1 i2 i3 i4 => (h'.1 k j i1 i2 i3 i4).trans (h.1 k j i1 i2 i3 i4), fun j hj => (h'.2 j hj).trans (h.2 j hj)⟩
theorem LHc.ofz (h : ∀ k j : Nat, (k < 45 ∨ 127 ≤ k) → c' k j = c k j) : LHc c c' := ⟨fun k j _ i2 => h k j (by omega), fun i hi => h _ _ (by omega), fun k j i1 => h k j (by omega)⟩
theorem LHc.lfz (h : LFc c c') : LHc c c' := ⟨h.1, h.2.1, h.2.2.2.2⟩
theorem LHd.lfz (h : LFd d d') : LHd d d' := ⟨fun k j i1 i2 i3 i4 => h.1 k j i1 i3 (by omega), h.2.1⟩
theorem TROW.mvz (h : TROW c d np nq r) (hc : ∀ k j : Nat, 9 ≤ k → k ≤ 16 → c2 k j = c k j) (hd : ∀ j : Nat, 260 ≤ j → d2 254 j = d 254 j) : TROW c2 d2 np nq r := by
  obtain ⟨K, hK, a1, a2, a3, a4, a5, a6, a7, a8, a9⟩ := h
  refine ⟨K, hK, by rw [hc 9 r (by decide) (by decide)]; exact a1, by rw [hd _ (by omega)]; exact a2, fun q => ?_, fun q => ?_, fun q => ?_, fun q => ?_, fun q => ?_, fun q => ?_, fun q => ?_⟩
  · obtain ⟨W, w1, w2, w3⟩ := a3 q
    exact ⟨W, w1, by rw [hc 10 r (by decide) (by decide)]; exact w2, by rw [hd _ (by omega)]; exact w3⟩
  · obtain ⟨W, w1, w2, w3⟩ := a4 q
    exact ⟨W, w1, by rw [hc 11 r (by decide) (by decide)]; exact w2, by rw [hd _ (by omega)]; exact w3⟩
  · obtain ⟨W, w1, w2, w3⟩ := a5 q
    exact ⟨W, w1, by rw [hc 11 r (by decide) (by decide)]; exact w2, by rw [hd _ (by omega)]; exact w3⟩
  · obtain ⟨Q, T, w1, w2, w3, w4, w5, w6⟩ := a6 q
    exact ⟨Q, T, w1, w2, by rw [hc 12 r (by decide) (by decide)]; exact w3, by rw [hd _ (by omega)]; exact w4, by rw [hc 13 r (by decide) (by decide)]; exact w5, by rw [hd _ (by omega)]; exact w6⟩
  · rw [hc 14 r (by decide) (by decide), hc 13 r (by decide) (by decide), hd (266 + 8 * r) (by omega), hd (262 + 8 * r) (by omega)]
    exact a7 q
  · obtain ⟨v, w1, w2, w3, w4⟩ := a8 q
    exact ⟨v, w1, w2, by rw [hc 13 r (by decide) (by decide)]; exact w3, by rw [hd _ (by omega)]; exact w4⟩
  · rw [hd (265 + 8 * r) (by omega), hc 15 r (by decide) (by decide)]
    exact a9 q
theorem PAI.mvz (h : PAI c nn o e) (hc : ∀ k j : Nat, 9 ≤ k → k ≤ 16 → c2 k j = c k j) : PAI c2 nn o e := by
  unfold PAI opn at *
  rw [hc 9 o (by decide) (by decide), hc 15 o (by decide) (by decide), hc 15 e (by decide) (by decide), hc 9 e (by decide) (by decide), hc 16 o (by decide) (by decide), hc 16 e (by decide) (by decide)]
  exact h
theorem NEST.mvz (h : NEST c nn) (hc : ∀ k j : Nat, 9 ≤ k → k ≤ 16 → c2 k j = c k j) : NEST c2 nn := by
  have hb : ∀ k j : Nat, 9 ≤ k → k ≤ 16 → c k j = c2 k j := fun k j h1 h2 => (hc k j h1 h2).symm
  refine ⟨fun e he h9 => ?_, fun o ho h9 => ?_, fun o e o' e' p p' l1 l2 => ?_⟩
  · rw [hc 9 e (by decide) (by decide)] at h9
    obtain ⟨o, p⟩ := h.1 e he h9
    exact ⟨o, p.mvz hc⟩
  · unfold opn at h9
    rw [hc 9 o (by decide) (by decide)] at h9
    obtain ⟨e, p⟩ := h.2.1 o ho h9
    exact ⟨e, p.mvz hc⟩
  · rw [hc 16 o (by decide) (by decide), hc 16 o' (by decide) (by decide)]
    exact h.2.2 o e o' e' (p.mvz hb) (p'.mvz hb) l1 l2
theorem PAI.eun {e' : Nat} (h : PAI c nn o e) (h' : PAI c nn o e') : e = e' := by
  have a := h.2.2.2.1
  have b := h'.2.2.2.1
  omega
theorem PAI.oun {o' : Nat} (h : PAI c nn o e) (h' : PAI c nn o' e) : o = o' := by
  have a := h.2.2.2.2.1
  have b := h'.2.2.2.2.1
  omega
theorem PAI.e9z (h : PAI c nn o e) : 9 ≤ c 9 e := by
  rcases h.2.2.2.2.2.1 with ⟨-, q⟩ | ⟨-, q⟩ <;> omega
theorem PAI.o7 (h : PAI c nn o e) : 4 ≤ c 9 o ∧ c 9 o ≤ 7 := h.2.2.1
/-- a LOOP around a row of another has another place to count -/
theorem NEST.dep {i e' : Nat} (hN : NEST c nn) (h : PAI c nn o e) (h' : PAI c nn i e') (hi : i ≠ o) (h1 : i < e) (h2 : e ≤ e') : c 16 i ≠ c 16 o := by
  have n1 : e' ≠ e := fun q => hi (h'.oun (by rw [q]; exact h))
  have := h.1
  by_cases q : i < o
  · have := (hN.2.2 i e' o e h' h q (by omega)).2
    omega
  · have := (hN.2.2 o e i e' h h' (by omega) h1).1
    omega
/-- but for how often is left -/
theorem LRE.lp (h : LRE c d np nq nn st k) (hk : k2 ≤ nn) (hc : ∀ i j : Nat, i ≠ 108 → c2 i j = c i j) (hd : ∀ i j : Nat, i ≠ 267 → d2 i j = d i j) (hl : LPR c2 d2 nn k2) (hx : ∀ o : Nat, PAI c nn o k2 → c 9 o = 7 → o + 1 ≠ k2) : LRE c2 d2 np nq nn st k2 := by
  obtain ⟨⟨a1, a2⟩, ⟨N, hC, hG⟩, ⟨dr, b1, b2, b3⟩, ⟨c1, c2', c3, c4⟩, ⟨e1, e2, e3⟩, hT, hN, -, -⟩ := h
  obtain ⟨⟨q5, q6, qN⟩, -⟩ := id hC
  have s : SCL c c2 np nq N := SCL.of q5 q6 qN (fun k j _ _ => hc k j (by omega))
  have hb : ∀ k j : Nat, 9 ≤ k → k ≤ 16 → c k j = c2 k j := fun k j _ _ => (hc k j (by omega)).symm
  exact ⟨⟨hk, a2⟩, ⟨N, hC.mv s (fun j _ => hd _ _ (by omega)), hG.mv q5 q6 s⟩, ⟨dr, b1, by rw [hc _ _ (by omega)]; exact b2, by rw [hd _ _ (by omega)]; exact b3⟩, ⟨by rw [hc _ _ (by omega)]; exact c1, by rw [hd _ _ (by omega)]; exact c2', by rw [hc _ _ (by omega)]; exact c3, by rw [hd _ _ (by omega)]; exact c4⟩, ⟨by rw [hc _ _ (by omega)]; exact e1, by rw [hd _ _ (by omega)]; exact e2, e3⟩, fun r hr => (hT r hr).mvz (fun k j _ _ => hc k j (by omega)) (fun j _ => hd _ _ (by omega)), hN.mvz (fun k j _ _ => hc k j (by omega)), hl, fun o p q => hx o (p.mvz hb) (by rw [hc _ _ (by omega)] at q; exact q)⟩
/-- behind what a row does -/
theorem LRE.nx (h : LRE c d np nq nn st k) (hst : st < 300) (hk : k2 ≤ nn) (hCG : ∃ N : Nat, CT c2 d2 np nq N ∧ GD c2 np nq N) (hD : DRW c2 d2) (fc : ∀ k j : Nat, 8 ≤ k → k < 17 → c2 k j = c k j) (f1 : c2 107 11 = 0 ∧ c2 107 7 = ((st + 1 : Nat) : Int)) (f2 : ∀ j : Nat, c2 108 j = c 108 j) (fd : ∀ j : Nat, (j = 7 ∨ 260 ≤ j) → d2 254 j = d 254 j) (f3 : d2 268 4 = 0 ∧ d2 253 34 = ((st + 1 : Nat) : Int)) (f4 : ∀ j : Nat, d2 267 j = d 267 j) (hl : LPR c d nn k2) (hx : ∀ o : Nat, PAI c nn o k2 → c 9 o = 7 → o + 1 ≠ k2) : LRE c2 d2 np nq nn (st + 1) k2 := by
  obtain ⟨⟨a1, a2⟩, -, -, -, ⟨e1, e2, e3⟩, hT, hN, -, -⟩ := h
  have hc : ∀ k j : Nat, 9 ≤ k → k ≤ 16 → c2 k j = c k j := fun k j i1 i2 => fc k j (by omega) (by omega)
  have hb : ∀ k j : Nat, 9 ≤ k → k ≤ 16 → c k j = c2 k j := fun k j i1 i2 => (hc k j i1 i2).symm
  refine ⟨⟨hk, by omega⟩, hCG, hD, ⟨f1.1, f3.1, f1.2, f3.2⟩, ⟨by rw [fc _ _ (by decide) (by decide)]; exact e1, by rw [fd _ (Or.inl rfl)]; exact e2, e3⟩, fun r hr => (hT r hr).mvz hc (fun j hj => fd j (Or.inr hj)), hN.mvz hc, fun o e p q i1 i2 => ?_, fun o p q => hx o (p.mvz hb) (by rw [hc 9 o (by decide) (by decide)] at q; exact q)⟩
  rw [hc 9 o (by decide) (by decide)] at q
  obtain ⟨ro, D, w1, w2, w3, w4, w5⟩ := hl o e (p.mvz hb) q i1 i2
  exact ⟨ro, D, w1, by rw [f4]; exact w2, w3, by rw [hc 16 o (by decide) (by decide)]; exact w4, by rw [f2]; exact w5⟩
end Row
section Liv
variable {sv : Nat → Int32} {L : Nat} {np nq nn st : Nat} {c' d' : cg} {r' : Int}
/-- behind ENDS -/
theorem ends_l : ∀ (n' : Nat) {n : Nat} {lf lf' : dlf} {c d : cg} {k u : Nat}, LRE c d np nq nn st k → u ≤ 61 * st + 61 → (k < nn → 9 ≤ c 9 k → u ≤ 61 * st + k) → lf 0 = (4, 107) → lf 3 = (0, (k : Int)) → lf 4 = (0, (u : Int)) → zr sv L n 147 40 lf [] c (c', none) → lf' 0 = (4, 253) → lf' 2 = (0, (k : Int)) → zr sv L n' 250 2 lf' [] d (d', some (0, r')) → ∃ (k2 n2 u2 : Nat) (lf2 : dlf) (c2 : cg), n2 ≤ n ∧ r' = (k2 : Int) ∧ LRE c2 d' np nq nn st k2 ∧ (k2 < nn → c2 9 k2 < 9) ∧ u2 ≤ 61 * st + 61 ∧ lf2 0 = (4, 107) ∧ lf2 3 = (0, (k2 : Int)) ∧ lf2 4 = (0, (u2 : Int)) ∧ zr sv L n2 147 40 lf2 [] c2 (c', none) ∧ LHc c c2 ∧ LHd d d'
  | 0, _, _, _, _, _, _, _, _, _, _, _, _, _, _, _, _, h' => (zr_0 h').elim
  | n' + 1, n, lf, lf', c, d, k, u, hL, hu, hu2, h0, h3, h4, h, h0', h2', h' => by
    obtain ⟨⟨hk, hst⟩, hCG, hD, ⟨l1, l2, l3, l4⟩, ⟨m1, m2, m3⟩, hT, hN, hP, hx⟩ := id hL
    by_cases hlt : k < nn
    · obtain ⟨K, K10, t1, t2, -, -, -, -, -, -, t9⟩ := hT k hlt
      obtain ⟨f1, f2, f3, f4, f5⟩ := kdm_f K K10
      by_cases hE : 9 ≤ K
      · obtain ⟨o, hp⟩ := hN.1 k hlt (by omega)
        obtain ⟨p1, p2, p3, p4, p5, p6, D, D2, p7, p8⟩ := id hp
        cases n with
        | zero => exact (zr_0 h).elim
        | succ n =>
          have tq : d 254 (265 + 8 * k) = (o : Int) := (t9 (by omega)).trans p5
          obtain ⟨Ko, Ko10, to1, to2, -⟩ := hT o (by omega)
          obtain ⟨go1, go2, go3, -⟩ := kdm_f Ko Ko10
          have hk21 : d 254 (260 + 8 * k) = 21 := by rw [t2, f2.mpr hE]; rfl
          have hu3 := hu2 hlt (by omega)
          have nE : ∀ {i e : Nat}, PAI c nn i e → i ≠ k := fun q e => by
            have := q.o7
            rw [e] at this
            omega
          rcases t_go_s (by omega) (by omega) m3 K10 hst m1 l1 t1 l3 hlt h h0 h3 h4 with ⟨⟨z1, z2, z3⟩, -⟩ | ⟨⟨z1, z2, z3⟩, -⟩ | ⟨⟨z1, z2⟩, g1, r1, k1, lf1, y0, y3, y4, h⟩ | ⟨z1, lf1, y0, y3, y4, h⟩
          · exfalso; omega
          · exfalso; omega
          · -- the END of a LOOP
            have o7 : c 9 o = 7 := by
              rcases p6 with ⟨q, -⟩ | ⟨-, q⟩
              · exact q
              · omega
            obtain ⟨ro, Dx, ro98, e1, Dx2, e2, e3⟩ := hP o k hp o7 p1 (Nat.le_refl k)
            have kd20 : d 254 (260 + 8 * o) = 20 := by rw [to2, go3.mpr (by omega)]; rfl
            have hDD : c 16 k = (Dx : Int) := by omega
            rcases t_ble (by omega) Dx2 (by omega) (by omega) hDD p5 e3 k1 rfl rfl with ⟨z, o1⟩ | ⟨z, o1⟩
            · rcases m_bhe_l (by omega) m3 (by omega) (by omega) m2 hk21 tq kd20 e1 hlt h' h0' h2' with ⟨z', lf2, x0, x2, h'⟩ | ⟨z', -⟩
              · obtain ⟨u1, u2⟩ := oI o1
                have C : ∀ i j : Nat, i ≠ 108 → g1 i j = c i j := fun i j hi => by rw [u1, cup_ne (by omega)]
                have hb : ∀ k j : Nat, 9 ≤ k → k ≤ 16 → c k j = g1 k j := fun k j _ _ => (C k j (by omega)).symm
                have hL2 : LRE g1 (cup d 267 o ((ro : Int))) np nq nn st (k + 1) := by
                  refine hL.lp (by omega) C (fun i j hi => cup_ne (by omega)) (fun i e q1 q7 i1 i2 => ?_) (fun i q _ => by have := nE q; omega)
                  have q1 := q1.mvz hb
                  rw [C _ _ (by omega)] at q7
                  have n1 := nE q1
                  have n2 : i ≠ o := fun w => by
                    rw [w] at q1
                    have := q1.eun hp
                    omega
                  obtain ⟨ri, Di, w1, w2, w3, w4, w5⟩ := hP i e q1 q7 (by omega) (by omega)
                  have nd := hN.dep hp q1 n2 (by omega) (by omega)
                  exact ⟨ri, Di, w1, by rw [cup_ne (by omega)]; exact w2, w3, by rw [C _ _ (by omega)]; exact w4, by rw [u1, cup_ne (by omega)]; exact w5⟩
                obtain ⟨k2, n2, u2', lf3, c2, v1, v2, v3, v4, v5, v6, v7, v8, v9, va, vb⟩ := ends_l n' (u := u + 1) hL2 (by omega) (fun _ _ => by omega) y0 (by rw [y3, u2]; exact congrArg _ (Int.add_comm _ _)) (by rw [y4]; exact congrArg _ (Int.add_comm _ _)) h x0 (by rw [x2]; exact congrArg _ (Int.add_comm _ _)) h'
                exact ⟨k2, n2, u2', lf3, c2, by omega, v2, v3, v4, v5, v6, v7, v8, v9, (LHc.ofz (fun i j hi => C i j (by omega))).trz va, LHd.trz ⟨fun i j _ i2 _ _ => cup_ne (by omega), fun j _ => cup_ne (by omega)⟩ vb⟩
              · exfalso; omega
            · rcases m_bhe_l (by omega) m3 (by omega) (by omega) m2 hk21 tq kd20 e1 hlt h' h0' h2' with ⟨z', -⟩ | ⟨z', lf2, x0, x2, h'⟩
              · exfalso; omega
              · obtain ⟨u1, u2⟩ := oI o1
                have C : ∀ i j : Nat, i ≠ 108 → g1 i j = c i j := fun i j hi => by rw [u1, cup_ne (by omega)]
                have hb : ∀ k j : Nat, 9 ≤ k → k ≤ 16 → c k j = g1 k j := fun k j _ _ => (C k j (by omega)).symm
                have hok : o + 1 ≠ k := hx o hp o7
                have nob : ∀ i : Nat, ¬ PAI c nn i (o + 1) := fun i q => by
                  by_cases w : i = o
                  · rw [w] at q
                    exact hok (q.eun hp)
                  · have h1 := q.1
                    have := (hN.2.2 i (o + 1) o k q hp (by omega) (by omega)).1
                    omega
                have hL2 : LRE g1 (cup d 267 o ((ro : Int) - 1)) np nq nn st (o + 1) := by
                  refine hL.lp (by omega) C (fun i j hi => cup_ne (by omega)) (fun i e q1 q7 i1 i2 => ?_) (fun i q _ => absurd q (nob i))
                  have q1 := q1.mvz hb
                  rw [C _ _ (by omega)] at q7
                  by_cases w : i = o
                  · subst w
                    exact ⟨ro - 1, Dx, by omega, by rw [cup_at]; omega, Dx2, by rw [C _ _ (by omega)]; exact e2, by rw [u1, cup_at]; omega⟩
                  · have l1 := (hN.2.2 i e o k q1 hp (by omega) (by omega)).1
                    obtain ⟨ri, Di, w1, w2, w3, w4, w5⟩ := hP i e q1 q7 (by omega) (by omega)
                    have nd := hN.dep hp q1 w (by omega) (by omega)
                    exact ⟨ri, Di, w1, by rw [cup_ne (by omega)]; exact w2, w3, by rw [C _ _ (by omega)]; exact w4, by rw [u1, cup_ne (by omega)]; exact w5⟩
                obtain ⟨k2, n2, u2', lf3, c2, v1, v2, v3, v4, v5, v6, v7, v8, v9, va, vb⟩ := ends_l n' (u := u + 1) hL2 (by omega) (fun i1 i2 => by
                  rw [C _ _ (by omega)] at i2
                  obtain ⟨i, q⟩ := hN.1 (o + 1) i1 i2
                  exact absurd q (nob i)) y0 (by rw [y3, u2]; exact congrArg _ (Int.add_comm _ _)) (by rw [y4]; exact congrArg _ (Int.add_comm _ _)) h x0 (by rw [x2]; exact congrArg _ (Int.add_comm _ _)) h'
                exact ⟨k2, n2, u2', lf3, c2, by omega, v2, v3, v4, v5, v6, v7, v8, v9, (LHc.ofz (fun i j hi => C i j (by omega))).trz va, LHd.trz ⟨fun i j _ i2 _ _ => cup_ne (by omega), fun j _ => cup_ne (by omega)⟩ vb⟩
          · -- the END of a WHEN
            have o7 : c 9 o ≠ 7 := by
              rcases p6 with ⟨-, q⟩ | ⟨q, -⟩
              · omega
              · exact q
            obtain ⟨lf2, x0, x2, h'⟩ := m_bhe_w (by omega) m3 (by omega) go1 m2 hk21 tq to2 rfl hlt (fun q => o7 (by rw [to1, go3.mp q]; rfl)) h' h0' h2'
            have hL2 : LRE c (cup d 267 o (w32 (d 267 o - 0))) np nq nn st (k + 1) := by
              refine hL.lp (by omega) (fun _ _ _ => rfl) (fun i j hi => cup_ne (by omega)) (fun i e q1 q7 i1 i2 => ?_) (fun i q _ => by have := nE q; omega)
              have n1 := nE q1
              have n2 : i ≠ o := fun w => o7 (by rw [← w]; exact q7)
              obtain ⟨ri, Di, w1, w2, w3, w4, w5⟩ := hP i e q1 q7 (by omega) (by omega)
              exact ⟨ri, Di, w1, by rw [cup_ne (by omega)]; exact w2, w3, w4, w5⟩
            obtain ⟨k2, n2, u2', lf3, c2, v1, v2, v3, v4, v5, v6, v7, v8, v9, va, vb⟩ := ends_l n' (u := u + 1) hL2 (by omega) (fun _ _ => by omega) y0 (by rw [y3]; exact congrArg _ (Int.add_comm _ _)) (by rw [y4]; exact congrArg _ (Int.add_comm _ _)) h x0 (by rw [x2]; exact congrArg _ (Int.add_comm _ _)) h'
            exact ⟨k2, n2, u2', lf3, c2, by omega, v2, v3, v4, v5, v6, v7, v8, v9, va, LHd.trz ⟨fun i j _ i2 _ _ => cup_ne (by omega), fun j _ => cup_ne (by omega)⟩ vb⟩
      · obtain ⟨v1, v2⟩ := oI (m_bhe_n (by omega) m3 f1 m2 t2 (fun q => hE (f2.mp q)) hlt h' h0' h2')
        rw [v1]
        exact ⟨k, n, u, lf, c, Nat.le_refl n, v2, hL, fun _ => by omega, hu, h0, h3, h4, h, LHc.rf c, LHd.rf d⟩
    · obtain ⟨v1, v2⟩ := oI (m_bhe_e (by omega) m3 m2 (by omega) h' h0' h2')
      rw [v1]
      exact ⟨k, n, u, lf, c, Nat.le_refl n, v2, hL, fun q => absurd q hlt, hu, h0, h3, h4, h, LHc.rf c, LHd.rf d⟩
/-- what a row does but for WHEN, LOOP, STOP -/
theorem does_pr {n n' N k K : Nat} {lf lf' : dlf} {c d c1 d1 : cg} {r : Int} (hC : CT c d np nq N) (hG : GD c np nq N) (hD : DRW c d) (hk : k ≤ 59) (hT : TROW c d np nq k) (hK : c 9 k = (K : Int)) (K3 : K ≤ 3) (h : zr sv L n 149 0 lf [] c (c1, some (0, r))) (h0 : lf 0 = (4, 107)) (h1 : lf 1 = (0, (k : Int))) (h' : zr sv L n' 249 0 lf' [] d (d1, some (0, r'))) (h0' : lf' 0 = (4, 253)) (h1' : lf' 1 = (0, 260 + 8 * (k : Int))) : r = 1 + (k : Int) ∧ LST c d c1 d1 np nq := by
  obtain ⟨⟨q5, q6, qN⟩, -⟩ := id hC
  obtain ⟨K', K10, t1, t2, t3, -, t5, t6, -⟩ := hT
  have e : K' = K := by omega
  subst e
  rcases (show K' = 0 ∨ K' = 1 ∨ K' = 2 ∨ K' = 3 from by omega) with e | e | e | e <;> subst e
  · obtain ⟨W, w1, w2, w3⟩ := t3 (by omega)
    obtain ⟨P, p1, p2, p3⟩ := t5 (by omega)
    obtain ⟨Q, T, s1, s2, s3, s4, s5, s6⟩ := t6 (by omega)
    obtain ⟨g1, k1, o⟩ := t_bst_0 hk t1 h h0 h1
    obtain ⟨g2, r2, k2, o'⟩ := m_dos_14 hk (by omega) (by omega) (by omega) (by omega) t2 w3 p3 s4 s6 h' h0' h1'
    obtain ⟨u1, u2⟩ := oI o
    obtain ⟨v1, v2⟩ := oI o'
    rw [← u1] at k1
    rw [← v1] at k2
    exact ⟨u2, swt_pr hC hG hD hk w1 p1 s1 s2 w2 p2 s3 s5 k1 rfl rfl k2 rfl rfl rfl rfl rfl⟩
  · obtain ⟨W, w1, w2, w3⟩ := t3 (by omega)
    obtain ⟨P, p1, p2, p3⟩ := t5 (by omega)
    obtain ⟨g1, k1, o⟩ := t_bst_1 hk t1 h h0 h1
    obtain ⟨g2, r2, k2, o'⟩ := m_dos_18 hk (by omega) (by omega) t2 w3 p3 h' h0' h1'
    obtain ⟨u1, u2⟩ := oI o
    obtain ⟨v1, v2⟩ := oI o'
    rw [← u1] at k1
    rw [← v1] at k2
    exact ⟨u2, swy_pr hC hG hD hk w1 p1 w2 p2 k1 rfl rfl k2 rfl rfl rfl⟩
  · obtain ⟨P, p1, p2, p3⟩ := t5 (by omega)
    obtain ⟨Q, T, s1, s2, s3, s4, s5, s6⟩ := t6 (by omega)
    obtain ⟨g1, r1, k1, o⟩ := t_bst_2 hk (by omega) (by omega) (by omega) t1 p2 s3 s5 h h0 h1
    obtain ⟨g2, r2, k2, o'⟩ := m_dos_16 hk (by omega) (by omega) (by omega) t2 p3 s4 s6 h' h0' h1'
    obtain ⟨u1, u2⟩ := oI o
    have v1 : d1 = g2 := by
      rcases o' with ⟨-, o'⟩ | ⟨-, o'⟩
      · exact (oI o').1
      · exact (oI o').1
    rw [← u1] at k1
    rw [← v1] at k2
    exact ⟨u2, fnl_pr hC hG hD p1 s1 s2 k1 rfl rfl rfl rfl k2 rfl rfl rfl rfl⟩
  · obtain ⟨W, w1, w2, w3⟩ := t3 (by omega)
    obtain ⟨g1, k1, o⟩ := t_bst_3 hk (by omega) t1 w2 h h0 h1
    obtain ⟨g2, r2, k2, o'⟩ := m_dos_17 hk (by omega) t2 w3 h' h0' h1'
    obtain ⟨u1, u2⟩ := oI o
    obtain ⟨v1, v2⟩ := oI o'
    rw [← u1] at k1
    rw [← v1] at k2
    exact ⟨u2, rcl_pr hC hG hD w1 k1 rfl rfl k2 rfl rfl⟩
/-- WHEN: both hold or neither -/
theorem hld_pr {n n' N k K : Nat} {lf lf' : dlf} {c d c1 d1 : cg} {r : Int} (hC : CT c d np nq N) (hG : GD c np nq N) (hk : k ≤ 59) (hT : TROW c d np nq k) (hK : c 9 k = (K : Int)) (K3 : K = 4 ∨ K = 5 ∨ K = 6) (h : zr sv L n 150 0 lf [] c (c1, some (0, r))) (h0 : lf 0 = (4, 107)) (h1 : lf 1 = (0, (k : Int))) (h' : zr sv L n' 251 0 lf' [] d (d1, some (0, r'))) (h0' : lf' 0 = (4, 253)) (h1' : lf' 1 = (0, 260 + 8 * (k : Int))) : c1 = c ∧ d1 = d ∧ (r = 0 ↔ r' = 0) := by
  obtain ⟨⟨q5, q6, qN⟩, ⟨c0, c3, c9⟩, ⟨d0, d1', d2⟩, ⟨t3', t4', t5', t6'⟩, -, hS, -⟩ := id hC
  obtain ⟨K', K10, t1, t2, -, t4, t5, t6, t7, -⟩ := hT
  have e : K' = K := by omega
  subst e
  rcases K3 with e | e | e <;> subst e
  · obtain ⟨s1, s2⟩ := t7 (by omega)
    rcases t_hld_4 hk t1 rfl s1 s2 h h0 h1 with ⟨z, o⟩ | ⟨z, o⟩
    · rcases m_hld_1923 hk t2 rfl rfl t6' h' h0' h1' with ⟨z', o'⟩ | ⟨z', o'⟩
      · obtain ⟨u1, u2⟩ := oI o
        obtain ⟨v1, v2⟩ := oI o'
        exact ⟨u1, v1, by omega⟩
      · exfalso; omega
    · rcases m_hld_1923 hk t2 rfl rfl t6' h' h0' h1' with ⟨z', o'⟩ | ⟨z', o'⟩
      · exfalso; omega
      · obtain ⟨u1, u2⟩ := oI o
        obtain ⟨v1, v2⟩ := oI o'
        exact ⟨u1, v1, by omega⟩
  · obtain ⟨P, p1, p2, p3⟩ := t4 rfl
    obtain ⟨s1, s2⟩ := t7 (by omega)
    have pu := (hS P p1).1.1
    rcases t_hld_5 hk (by omega) t1 p2 rfl s1 s2 h h0 h1 with ⟨z, o⟩ | ⟨z, o⟩
    · rcases m_hld_1909 hk (by omega) t2 rfl rfl p3 pu h' h0' h1' with ⟨z', o'⟩ | ⟨z', o'⟩
      · obtain ⟨u1, u2⟩ := oI o
        obtain ⟨v1, v2⟩ := oI o'
        exact ⟨u1, v1, by omega⟩
      · exfalso; omega
    · rcases m_hld_1909 hk (by omega) t2 rfl rfl p3 pu h' h0' h1' with ⟨z', o'⟩ | ⟨z', o'⟩
      · exfalso; omega
      · obtain ⟨u1, u2⟩ := oI o
        obtain ⟨v1, v2⟩ := oI o'
        exact ⟨u1, v1, by omega⟩
  · obtain ⟨P, p1, p2, p3⟩ := t5 (by omega)
    obtain ⟨Q, T, s1, s2, s3, s4, s5, s6⟩ := t6 (by omega)
    have hV := hG.hv q5 q6
    have hR := hC.hr hG
    obtain ⟨g1, r1, k1, h⟩ := t_hld_6 hk (by omega) (by omega) (by omega) t1 p2 s3 s5 h h0 h1
    obtain ⟨x1, x2⟩ := oI (say_ok hV qN c9 (by omega) (by omega) (by omega) k1 rfl rfl rfl rfl)
    obtain ⟨g2, r2, k2, h'⟩ := m_hld_1924 hk (by omega) (by omega) (by omega) t2 p3 s4 s6 h' h0' h1'
    obtain ⟨y1, y2⟩ := oI (m_bkd_ok (by omega) (by omega) (by omega) qN d2 hV hR k2 rfl rfl rfl rfl rfl)
    rw [x1, x2] at h
    rw [y1, y2] at h'
    rcases h with ⟨z, o⟩ | ⟨z, o⟩
    · rcases h' with ⟨z', o'⟩ | ⟨z', o'⟩
      · obtain ⟨u1, u2⟩ := oI o
        obtain ⟨v1, v2⟩ := oI o'
        exact ⟨u1, v1, by omega⟩
      · exfalso; omega
    · rcases h' with ⟨z', o'⟩ | ⟨z', o'⟩
      · exfalso; omega
      · obtain ⟨u1, u2⟩ := oI o
        obtain ⟨v1, v2⟩ := oI o'
        exact ⟨u1, v1, by omega⟩
/-- the END of a LOOP around nothing, in the reference -/
theorem empt_l {k : Nat} (hk : k ≤ 58) (hn6 : nn ≤ 60) (hlt : k + 1 < nn) : ∀ (ro : Nat) {n' : Nat} {lf' : dlf} {d : cg}, ro ≤ 99 → d 254 7 = (nn : Int) → d 254 (260 + 8 * (k + 1)) = 21 → d 254 (265 + 8 * (k + 1)) = (k : Int) → d 254 (260 + 8 * k) = 20 → d 267 k = (ro : Int) → lf' 0 = (4, 253) → lf' 2 = (0, ((k + 1 : Nat) : Int)) → zr sv L n' 250 2 lf' [] d (d', some (0, r')) → ∃ (n2 : Nat) (lf2 : dlf) (d2 : cg), lf2 0 = (4, 253) ∧ lf2 2 = (0, ((k + 2 : Nat) : Int)) ∧ (∀ i j : Nat, ¬ (i = 267 ∧ j = k) → d2 i j = d i j) ∧ zr sv L n2 250 2 lf2 [] d2 (d', some (0, r'))
  | 0, n', lf', d, hro, e1, e2, e3, e4, e5, h0, h2, h => by
    cases n' with
    | zero => exact (zr_0 h).elim
    | succ n' =>
      rcases m_bhe_l (ro := 0) (by omega) hn6 (by omega) (by omega) e1 e2 e3 e4 e5 hlt h h0 h2 with ⟨-, lf2, x0, x2, h⟩ | ⟨z, -⟩
      · exact ⟨n', lf2, _, x0, by rw [x2]; exact congrArg _ (by omega), fun i j hi => cup_ne hi, h⟩
      · exfalso; omega
  | ro + 1, n', lf', d, hro, e1, e2, e3, e4, e5, h0, h2, h => by
    cases n' with
    | zero => exact (zr_0 h).elim
    | succ n' =>
      rcases m_bhe_l (ro := ro + 1) (by omega) hn6 (by omega) (by omega) e1 e2 e3 e4 e5 hlt h h0 h2 with ⟨z, -⟩ | ⟨-, lf2, x0, x2, h⟩
      · exfalso; omega
      · obtain ⟨n2, lf3, d2, y0, y2, y3, y4⟩ := empt_l hk hn6 hlt ro (by omega) (by rw [cup_ne (by omega)]; exact e1) (by rw [cup_ne (by omega)]; exact e2) (by rw [cup_ne (by omega)]; exact e3) (by rw [cup_ne (by omega)]; exact e4) (by rw [cup_at]; omega) x0 (by rw [x2]; exact congrArg _ (by omega)) h
        exact ⟨n2, lf3, d2, y0, y2, fun i j hi => by rw [y3 i j hi, cup_ne hi], y4⟩
end Liv
