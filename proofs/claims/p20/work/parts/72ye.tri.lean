/-! both readers of trials -/
theorem ft_cupc {a b : cg} (h : FT a b) {k : Nat} (hk : k ≠ 88) (j : Nat) (z : Int) : FT (cup a k j z) (cup b k j z) := by
  intro k' j' hn
  show (if k' = k ∧ j' = j then z else a k' j') = (if k' = k ∧ j' = j then z else b k' j')
  rw [h k' j' hn]
theorem fm_cupc {a b : cg} (h : FM a b) {k : Nat} (hk : k ≠ 253) (j : Nat) (z : Int) : FM (cup a k j z) (cup b k j z) := by
  intro k' j' hn
  show (if k' = k ∧ j' = j then z else a k' j') = (if k' = k ∧ j' = j then z else b k' j')
  rw [h k' j' hn]
theorem FTM.cupc {a b : cg} (h : FTM a b) {k : Nat} (hk : k ≠ 88) (j : Nat) (z : Int) : FTM (cup a k j z) (cup b k j z) :=
  ⟨ft_cupc h.1 hk j z, by rw [cup_row a j z (Ne.symm hk), cup_row b j z (Ne.symm hk)]; exact h.2⟩
theorem FTM.tr {a b c : cg} (h : FTM a b) (h' : FTM b c) : FTM a c := ⟨h.1.tr h'.1, Int.le_trans h'.2 h.2⟩
theorem SU.tr {c d c1 d1 c2 d2 : cg} {m : Nat} (h : SU c d c1 d1 m) (h' : SU c1 d1 c2 d2 m) : SU c d c2 d2 m := ⟨h'.1.tr h.1, h'.2.1.tr h.2.1, h'.2.2⟩
/-- a write on the class's side, one on the reference's -/
theorem SU.cupc {c d c1 d1 : cg} {m : Nat} (h : SU c d c1 d1 m) {k : Nat} (h1 : k ≠ 88) (h2 : k ≠ 2) (h3 : k ≠ 89) (j : Nat) (z : Int) : SU (cup c k j z) d (cup c1 k j z) d1 m :=
  ⟨h.1.cupc h1 j z, h.2.1, h.2.2.1.up (cup_row _ _ _ (Ne.symm h1)) (cup_row _ _ _ (Ne.symm h2)) (cup_row _ _ _ (Ne.symm h3)) rfl rfl, h.2.2.2.up (cup_row _ _ _ (Ne.symm h1)) rfl rfl⟩
theorem SU.cupd {c d c1 d1 : cg} {m : Nat} (h : SU c d c1 d1 m) {k : Nat} (h1 : k ≠ 253) (h2 : k ≠ 260) (j : Nat) (z : Int) : SU c (cup d k j z) c1 (cup d1 k j z) m :=
  ⟨h.1, fm_cupc h.2.1 h1 j z, h.2.2.1.up rfl rfl rfl (cup_row _ _ _ (Ne.symm h1)) (cup_row _ _ _ (Ne.symm h2)), h.2.2.2.up rfl (cup_row _ _ _ (Ne.symm h1)) (cup_row _ _ _ (Ne.symm h2))⟩
theorem FLT.cupc {c d : cg} (h : FLT c d) {k : Nat} (hk : k ≠ 88) (j : Nat) (z : Int) : FLT (cup c k j z) d := by
  unfold FLT at *
  rw [cup_row c j z (Ne.symm hk)]
  exact h
/-- the court that is there, as the readers of trials see it -/
def WN (c d : cg) (np nq : Nat) : Prop := (np ≤ 5 ∧ nq ≤ 6) ∧ (c 3 0 = (np : Int) ∧ d 254 0 = (np : Int) ∧ c 3 3 = (nq : Int) ∧ d 254 1 = (nq : Int)) ∧ NPn c d np ∧ NQn c d nq
theorem WN.fr {c d c' d' : cg} {np nq : Nat} (h : WN c d np nq) (h1 : ∀ k : Nat, k < 45 → c' k = c k) (h2 : d' 254 0 = d 254 0) (h3 : d' 254 1 = d 254 1) (h4 : d' 255 = d 255) : WN c' d' np nq := by
  obtain ⟨⟨a1, a2⟩, ⟨b1, b2, b3, b4⟩, b5, b6⟩ := h
  refine ⟨⟨a1, a2⟩, ⟨by rw [h1 3 (by omega)]; exact b1, h2.trans b2, by rw [h1 3 (by omega)]; exact b3, h3.trans b4⟩, fun i hi => ?_, fun i hi => ?_⟩
  · rw [h1 5 (by omega), h4]; exact b5 i hi
  · rw [h1 (17 + 2 * i) (by omega), h4]; exact b6 i hi
theorem WN.su {c d c' d' : cg} {m np nq : Nat} (h : WN c d np nq) (s : SU c d c' d' m) : WN c' d' np nq :=
  h.fr (fun k hk => s.1.1.row (by omega)) (by rw [s.2.1.row (by omega)]) (by rw [s.2.1.row (by omega)]) (s.2.1.row (by omega))
section Tri
variable {sv : Nat → Int32} {L : Nat} {n n' : Nat} {lf lf' : dlf} {c d c' d' : cg} {m np nq : Nat} {r r' : Int}
theorem wit_pr {i to : Nat} (hi : i < 60) (hto : to < 5208) (hW : WN c d np nq) (hE : TE c d m) (hT : TQ c d m) (hf : d 253 18 = 0) (h : zr sv L n 75 0 lf [] c (c', some (0, r))) (h0 : lf 0 = (4, 90)) (h1 : lf 1 = (0, (i : Int))) (h' : zr sv L n' 197 0 lf' [] d (d', some (0, r'))) (h0' : lf' 0 = (4, 253)) (h1' : lf' 1 = (0, (to : Int))) : (r = 1 ∧ r' = 1 ∧ ∃ p : Nat, p < nq ∧ SU (cup c 52 i (p : Int)) (cup d 254 to (p : Int)) c' d' m) ∨ (r = 0 ∧ r' = 0 ∧ FLT c' d') := by
  obtain ⟨⟨a1, a2⟩, ⟨b1, b2, b3, b4⟩, b5, b6⟩ := hW
  obtain ⟨g1, r2, k1, h⟩ := t_wit h h0 h1
  obtain ⟨d1, s2, q1, e⟩ := m_perTo h' h0' h1'
  obtain ⟨e1, e2⟩ := oI e
  rw [b4] at q1
  rw [show ((i : Int)).toNat = i from rfl] at h
  rcases wper_pr a2 b3 b6 hto hE hT hf k1 rfl rfl q1 rfl rfl rfl rfl with ⟨y1, ⟨p, y2, y3⟩, y4⟩ | ⟨y1, y2, y3⟩
  · rcases h (by omega) (by omega) with ⟨x, o⟩ | ⟨x, o⟩
    · omega
    · obtain ⟨u1, u2⟩ := oI o
      rw [y3] at u1 y4
      exact Or.inl ⟨u2, by omega, p, y2, by rw [u1, e1]; exact y4.cupc (by decide) (by decide) (by decide) _ _⟩
  · rcases h (by omega) (by omega) with ⟨x, o⟩ | ⟨x, o⟩
    · obtain ⟨u1, u2⟩ := oI o
      exact Or.inr ⟨u2, by omega, by rw [u1, e1]; exact y3.cupc (by decide) _ _⟩
    · exact absurd y1 x
theorem sub_pr {i to : Nat} (hi : i < 60) (hto : to < 5208) (hW : WN c d np nq) (hE : TE c d m) (hT : TQ c d m) (hf : d 253 18 = 0) (h : zr sv L n 73 0 lf [] c (c', some (0, r))) (h0 : lf 0 = (4, 90)) (h1 : lf 1 = (0, (i : Int))) (h' : zr sv L n' 197 0 lf' [] d (d', some (0, r'))) (h0' : lf' 0 = (4, 253)) (h1' : lf' 1 = (0, (to : Int))) : (r = 1 ∧ r' = 1 ∧ ∃ p : Nat, p < nq ∧ SU (cup c 53 i (p : Int)) (cup d 254 to (p : Int)) c' d' m) ∨ (r = 0 ∧ r' = 0 ∧ FLT c' d') := by
  obtain ⟨⟨a1, a2⟩, ⟨b1, b2, b3, b4⟩, b5, b6⟩ := hW
  obtain ⟨g1, r2, k1, h⟩ := t_sub h h0 h1
  obtain ⟨d1, s2, q1, e⟩ := m_perTo h' h0' h1'
  obtain ⟨e1, e2⟩ := oI e
  rw [b4] at q1
  rw [show ((i : Int)).toNat = i from rfl] at h
  rcases wper_pr a2 b3 b6 hto hE hT hf k1 rfl rfl q1 rfl rfl rfl rfl with ⟨y1, ⟨p, y2, y3⟩, y4⟩ | ⟨y1, y2, y3⟩
  · rcases h (by omega) (by omega) with ⟨x, o⟩ | ⟨x, o⟩
    · omega
    · obtain ⟨u1, u2⟩ := oI o
      rw [y3] at u1 y4
      exact Or.inl ⟨u2, by omega, p, y2, by rw [u1, e1]; exact y4.cupc (by decide) (by decide) (by decide) _ _⟩
  · rcases h (by omega) (by omega) with ⟨x, o⟩ | ⟨x, o⟩
    · obtain ⟨u1, u2⟩ := oI o
      exact Or.inr ⟨u2, by omega, by rw [u1, e1]; exact y3.cupc (by decide) _ _⟩
    · exact absurd y1 x
theorem SU.f0 {c0 d0 : cg} (h : SU c0 d0 c d m) (hf : d0 253 18 = 0) : d 253 18 = 0 := (h.2.1 253 18 (by omega)).trans hf
/-- NAME in NAME hour NUMBER -/
theorem whr_pr {i b : Nat} (hi : i < 60) (hb : b + 8 < 5208) (hb1 : 2 ≤ b) (hW : WN c d np nq) (hE : TE c d m) (hT : TQ c d m) (hf : d 253 18 = 0) (h : zr sv L n 72 0 lf [] c (c', some (0, r))) (h0 : lf 0 = (4, 90)) (h1 : lf 1 = (0, (i : Int))) (h' : zr sv L n' 196 0 lf' [] d (d', some (0, r'))) (h0' : lf' 0 = (4, 253)) (h1' : lf' 1 = (0, (b : Int))) : (r = 1 ∧ r' = 1 ∧ ∃ p q t : Nat, p < nq ∧ q < np ∧ t < 8 ∧ SU (cup (cup (cup c 53 i (p : Int)) 54 i (q : Int)) 55 i (t : Int)) (cup (cup (cup d 254 (b + 2) (p : Int)) 254 (b + 3) (q : Int)) 254 (b + 4) (t : Int)) c' d' m) ∨ (r = 0 ∧ r' = 0 ∧ FLT c' d') := by
  have hW0 := hW
  obtain ⟨⟨a1, a2⟩, ⟨b1, b2, b3, b4⟩, b5, b6⟩ := hW0
  obtain ⟨g1, r2, k1, h⟩ := t_whr h h0 h1
  obtain ⟨d1, s2, q1, h'⟩ := m_whr h' h0' h1'
  obtain ⟨d0, s0, q0, e⟩ := m_perTo q1 rfl rfl
  obtain ⟨e1, e2⟩ := oI e
  rw [b4, show w32 ((b : Int) + 2) = ((b + 2 : Nat) : Int) by rw [w32_id (by omega) (by omega)]; rfl] at q0
  rw [show ((i : Int)).toNat = i from rfl] at h
  rcases wper_pr a2 b3 b6 (by omega) hE hT hf k1 rfl rfl q0 rfl rfl rfl rfl with ⟨y1, ⟨p, y2, y3⟩, y4⟩ | ⟨y1, y2, y3⟩
  · rcases h (by omega) (by omega) with ⟨x, o⟩ | ⟨x, g6, r7, k2, h⟩
    · omega
    · rcases h' with ⟨x', o'⟩ | ⟨x', d4, s5, q2, h'⟩
      · omega
      · rw [y3] at k2 y4
        have S1 := y4.cupc (k := 53) (by decide) (by decide) (by decide) i (p : Int)
        rw [e1] at q2
        have f1 : d0 253 18 = 0 := S1.f0 (by rw [cup_ne (by omega)]; exact hf)
        rcases pass_pr (i := 9) (by omega) S1.2.2.1 S1.2.2.2 f1 k2 rfl rfl q2 rfl rfl rfl with ⟨z1, z2, z3⟩ | ⟨z1, z2, z3⟩
        · rcases h with ⟨w, g9, r10, k3, h⟩ | ⟨w, o⟩
          · rcases h' with ⟨w', o'⟩ | ⟨w', d7, s8, q3, h'⟩
            · omega
            · have S2 := S1.tr z3
              have f2 : d4 253 18 = 0 := z3.f0 f1
              have W2 : WN g6 d4 np nq := hW.fr (fun k hk => by rw [S2.1.1.row (by omega), cup_row _ _ _ (by omega)]) (by rw [S2.2.1.row (by decide), cup_ne (by omega)]) (by rw [S2.2.1.row (by decide), cup_ne (by omega)]) (by rw [S2.2.1.row (by decide), cup_row _ _ _ (by decide)])
              obtain ⟨-, ⟨c1, c2, c3, c4⟩, c5, c6⟩ := W2
              obtain ⟨d6, s6, q4, e⟩ := m_plcTo q3 rfl rfl
              obtain ⟨e3, e4⟩ := oI e
              rw [c2, show w32 ((b : Int) + 3) = ((b + 3 : Nat) : Int) by rw [w32_id (by omega) (by omega)]; rfl] at q4
              rcases wplc_pr a1 c1 c5 (by omega) z3.2.2.1 z3.2.2.2 f2 k3 rfl rfl q4 rfl rfl rfl rfl with ⟨u1, ⟨q, u2, u3⟩, u4⟩ | ⟨u1, u2, u3⟩
              · rcases h with ⟨v, o⟩ | ⟨v, g12, r13, k4, h⟩
                · omega
                · rcases h' with ⟨v', o'⟩ | ⟨v', d10, s11, q5, h'⟩
                  · omega
                  · rw [u3] at k4 u4
                    have S3 : SU (cup (cup c 53 i (p : Int)) 54 i (q : Int)) (cup (cup d 254 (b + 2) (p : Int)) 254 (b + 3) (q : Int)) (cup g9 54 i (q : Int)) d6 m := ((S2.cupd (k := 254) (by decide) (by decide) (b + 3) (q : Int)).cupc (k := 54) (by decide) (by decide) (by decide) i (q : Int)).tr (u4.cupc (k := 54) (by decide) (by decide) (by decide) i (q : Int))
                    rw [e3] at q5
                    have f3 : d6 253 18 = 0 := u4.f0 (by rw [cup_ne (by omega)]; exact f2)
                    rcases pass_pr (i := 10) (by omega) S3.2.2.1 S3.2.2.2 f3 k4 rfl rfl q5 rfl rfl rfl with ⟨t1, t2, t3⟩ | ⟨t1, t2, t3⟩
                    · rcases h with ⟨x3, g15, r16, k5, h⟩ | ⟨x3, o⟩
                      · rcases h' with ⟨x4, o'⟩ | ⟨x4, d13, s14, q6, h'⟩
                        · omega
                        · have S4 := S3.tr t3
                          have f4 : d10 253 18 = 0 := t3.f0 f3
                          rw [show w32 ((b : Int) + 4) = ((b + 4 : Nat) : Int) by rw [w32_id (by omega) (by omega)]; rfl] at q6
                          rcases num_pr (by omega) t3.2.2.1 t3.2.2.2 f4 k5 rfl rfl rfl q6 rfl rfl rfl rfl with ⟨v1, v2, v3, v4⟩ | ⟨v1, v2, v3⟩
                          · obtain ⟨t, ht⟩ : ∃ t : Nat, r16 = (t : Int) := ⟨r16.toNat, by omega⟩
                            rw [ht, show (((b + 4 : Nat) : Int)).toNat = b + 4 from rfl] at v4
                            rcases h with ⟨x5, o⟩ | ⟨x5, o⟩
                            · omega
                            · rcases h' with ⟨x6, o'⟩ | ⟨x6, o'⟩
                              · omega
                              · obtain ⟨l1, l2⟩ := oI o
                                obtain ⟨l3, l4⟩ := oI o'
                                refine Or.inl ⟨l2, l4, p, q, t, y2, u2, by omega, ?_⟩
                                rw [l1, l3, ht]
                                exact ((S4.cupd (k := 254) (by decide) (by decide) (b + 4) (t : Int)).cupc (k := 55) (by decide) (by decide) (by decide) i (t : Int)).tr (v4.cupc (k := 55) (by decide) (by decide) (by decide) i (t : Int))
                          · rcases h with ⟨x5, o⟩ | ⟨x5, o⟩
                            · rcases h' with ⟨x6, o'⟩ | ⟨x6, o'⟩
                              · obtain ⟨l1, l2⟩ := oI o
                                obtain ⟨l3, l4⟩ := oI o'
                                exact Or.inr ⟨l2, l4, by rw [l1, l3]; exact v3.cupc (by decide) _ _⟩
                              · omega
                            · omega
                      · omega
                    · rcases h with ⟨x3, g15, r16, k5, h⟩ | ⟨x3, o⟩
                      · omega
                      · rcases h' with ⟨x4, o'⟩ | ⟨x4, d13, s14, q6, h'⟩
                        · obtain ⟨l1, l2⟩ := oI o
                          obtain ⟨l3, l4⟩ := oI o'
                          exact Or.inr ⟨l2, l4, by rw [l1, l3]; exact t3⟩
                        · omega
              · rcases h with ⟨v, o⟩ | ⟨v, g12, r13, k4, h⟩
                · rcases h' with ⟨v', o'⟩ | ⟨v', d10, s11, q5, h'⟩
                  · obtain ⟨l1, l2⟩ := oI o
                    obtain ⟨l3, l4⟩ := oI o'
                    exact Or.inr ⟨l2, l4, by rw [l1, l3, e3]; exact u3.cupc (by decide) _ _⟩
                  · (try clear h); (try clear h'); omega
                · (try clear h); (try clear h'); omega
          · omega
        · rcases h with ⟨w, g9, r10, k3, h⟩ | ⟨w, o⟩
          · (try clear h); (try clear h'); omega
          · rcases h' with ⟨w', o'⟩ | ⟨w', d7, s8, q3, h'⟩
            · obtain ⟨l1, l2⟩ := oI o
              obtain ⟨l3, l4⟩ := oI o'
              exact Or.inr ⟨l2, l4, by rw [l1, l3]; exact z3⟩
            · (try clear h); (try clear h'); omega
  · rcases h (by omega) (by omega) with ⟨x, o⟩ | ⟨x, g6, r7, k2, h⟩
    · rcases h' with ⟨x', o'⟩ | ⟨x', d4, s5, q2, h'⟩
      · obtain ⟨l1, l2⟩ := oI o
        obtain ⟨l3, l4⟩ := oI o'
        exact Or.inr ⟨l2, l4, by rw [l1, l3, e1]; exact y3.cupc (by decide) _ _⟩
      · (try clear h); (try clear h'); omega
    · (try clear h); (try clear h'); omega
theorem adv_sn {a : Nat} (hE : TE c d m) (ha : c 88 3 = (a : Int)) (ham : a ≤ m) (h : zr sv L n 37 0 lf [] c (c', none)) (h0 : lf 0 = (4, 88)) : c' 88 4 = 5 → sgn (c' 88 9) := by
  obtain ⟨h1, h2, h3, h4, h5, h6, h7⟩ := hE
  obtain ⟨f1, p, hR, hp, hT⟩ := adv_ok h0 ha h2 ham h1 h
  intro e
  have hT : TKC (c 2) (c 89) m p c' := hT
  rcases hT with ⟨a1, a2, a3⟩ | ⟨a1, a2, q, a3, a4, a5⟩ | ⟨a1, a2, q, a3, a4, a5, a6⟩ | ⟨a1, a2, a3, a4, a5, a6⟩ | ⟨a1, a2, a3, a4, a5, a6⟩
  · omega
  · rcases a5 with ⟨b1, b2, b3⟩ | ⟨b1, b2, ⟨i, b3, b4, b5, b6⟩ | ⟨b3, b4, b5⟩⟩ <;> omega
  · rcases a6 with ⟨b1, b2⟩ | ⟨b1, b2, b3⟩ <;> omega
  · rw [a5]; exact a2
  · omega
/-- what a TOKEN that is there begins with -/
theorem adv_sn2 (hE : TE c d m) (hT : TQ c d m) (hk : c 88 4 = 1 ∨ c 88 4 = 2 ∨ c 88 4 = 4 ∨ c 88 4 = 5) (h : zr sv L n 37 0 lf [] c (c', none)) (h0 : lf 0 = (4, 88)) : c' 88 4 = 5 → sgn (c' 88 9) := by
  obtain ⟨q, q1, q2, q3⟩ := tq_pos hT hk
  exact adv_sn hE q2 q1 h h0
theorem isg {x : Int} {d1 : cg} {s : Int} (h : zr sv L n 177 0 lf [] d (d1, some (0, s))) (h0 : lf 0 = (4, 253)) (h1 : lf 1 = (0, x)) : d1 = d ∧ ((s ≠ 0 ∧ d 253 12 = 4 ∧ d 253 15 = x) ∨ (s = 0 ∧ ¬ (d 253 12 = 4 ∧ d 253 15 = x))) := by
  rcases t_isSign h h0 h1 with ⟨x1, x2⟩ | ⟨x1, ⟨x2, x3⟩ | ⟨x2, x3⟩⟩
  · obtain ⟨e1, e2⟩ := oI x2
    exact ⟨e1, Or.inr ⟨e2, fun e => x1 e.1⟩⟩
  · obtain ⟨e1, e2⟩ := oI x3
    exact ⟨e1, Or.inr ⟨e2, fun e => x2 e.2⟩⟩
  · obtain ⟨e1, e2⟩ := oI x3
    exact ⟨e1, Or.inl ⟨by omega, x1, x2⟩⟩
/-- COMPARES NUMBER -/
theorem t123_pr {i b : Nat} (hi : i < 60) (hb : b + 8 < 5208) (hE : TE c d m) (hT : TQ c d m) (hf : d 253 18 = 0) (hs : c 88 4 = 5 → sgn (c 88 9)) (h : zr sv L n 71 123 lf [] c (c', some (0, r))) (h0 : lf 0 = (4, 90)) (h1 : lf 1 = (0, (i : Int))) (h' : zr sv L n' 195 76 lf' [] d (d', some (0, r'))) (h0' : lf' 0 = (4, 253)) (h1' : lf' 1 = (0, (b : Int))) : (r = 1 ∧ r' = 1 ∧ ∃ s v : Int, SU (cup (cup c 56 i s) 55 i v) (cup (cup d 254 (b + 6) s) 254 (b + 2) v) c' d' m) ∨ (r = 0 ∧ r' = 0 ∧ FLT c' d') := by
  obtain ⟨t1, t2, t3, t4, t5⟩ := tq_kinds hT
  obtain ⟨g1, r2, k1, h⟩ := t_test123 h h0 h1
  have h := h (by omega) (by omega)
  rw [show ((i : Int)).toNat = i from rfl] at h
  obtain ⟨e1, s1, q1, h'⟩ := m_test76 h' h0' h1'
  obtain ⟨u1, u2⟩ := isg q1 rfl rfl
  rw [u1, show (w32 ((b : Int) + 6)).toNat = b + 6 by rw [w32_id (by omega) (by omega)]; omega, show w32 ((b : Int) + 2) = ((b + 2 : Nat) : Int) by rw [w32_id (by omega) (by omega)]; rfl] at h'
  -- what no COMPARES is
  have bad : ¬ (c 88 4 = 5 ∧ c 88 9 ≠ 59) → ∀ {g2 : cg} {r3 : Int}, zr sv L n 39 0 (darg 0 [(4, 88), (0, 2)]) [] c (g2, some (0, r3)) → g1 = g2 → r2 = -1 → r = 0 ∧ r' = 0 ∧ FLT c' d' := by
    intro hn g2 r3 k2 z1 z2
    rcases h with ⟨y, -⟩ | ⟨y, o⟩
    · exact absurd z2 y
    · obtain ⟨l1, l2⟩ := oI o
      have no : ∀ x : Int, x ≠ 59 → ¬ (d 253 12 = 4 ∧ d 253 15 = x) := fun x hx e => hn ⟨t4.mpr e.1, by rw [t5 (t4.mpr e.1), e.2]; exact hx⟩
      rcases h' with ⟨y1, -⟩ | ⟨y1, e7, s8, q2, h'⟩
      · rcases u2 with ⟨v1, v2⟩ | ⟨v1, v2⟩
        · exact absurd v2 (no 60 (by decide))
        · exact absurd v1 y1
      · obtain ⟨u3, u4⟩ := isg q2 rfl rfl
        rcases h' with ⟨y2, -⟩ | ⟨y2, e13, s14, q3, h'⟩
        · rcases u4 with ⟨v1, v2⟩ | ⟨v1, v2⟩
          · exact absurd v2 (no 62 (by decide))
          · exact absurd v1 y2
        · rw [u3] at q3
          obtain ⟨u5, u6⟩ := isg q3 rfl rfl
          rcases h' with ⟨y3, -⟩ | ⟨y3, e19, s20, q4, o'⟩
          · rcases u6 with ⟨v1, v2⟩ | ⟨v1, v2⟩
            · exact absurd v2 (no 61 (by decide))
            · exact absurd v1 y3
          · obtain ⟨l3, l4⟩ := oI o'
            rw [u5] at q4
            obtain ⟨z3, z4, z5⟩ := fail_pr hT hf (by decide) k2 rfl rfl q4 rfl rfl
            exact ⟨l2, by rw [l4, z4], by rw [l1, l3, z1]; exact z5.cupc (by decide) _ _⟩
  rcases t_cmp k1 rfl with ⟨x1, g2, r3, k2, o⟩ | ⟨x1, ⟨x2, g5, k2, o⟩ | ⟨x2, g6, r7, k2, o⟩⟩
  · obtain ⟨l1, l2⟩ := oI o
    exact Or.inr (bad (fun e => x1 e.1) k2 l1 l2)
  · obtain ⟨l1, l2⟩ := oI o
    have hsg := hs x1
    have h12 := t4.mp x1
    have h15 := t5 x1
    rcases h with ⟨y, g6, r7, k3, h⟩ | ⟨y, -⟩
    · have fin : ∀ {e4 e5 : cg} {s6 : Int}, zr sv L n' 166 0 (darg 0 [(4, 253)]) [] (cup d 254 (b + 6) (d 253 15)) (e4, none) → zr sv L n' 175 0 (darg 0 [(4, 253), (0, ((b + 2 : Nat) : Int)), (0, 0), (0, 9999)]) [] e4 (e5, some (0, s6)) → (d', (some (0, r') : Option cv)) = (e5, some (0, s6)) → (r = 1 ∧ r' = 1 ∧ ∃ s v : Int, SU (cup (cup c 56 i s) 55 i v) (cup (cup d 254 (b + 6) s) 254 (b + 2) v) c' d' m) ∨ (r = 0 ∧ r' = 0 ∧ FLT c' d') := by
        intro e4 e5 s6 q5 q6 o'
        obtain ⟨l3, l4⟩ := oI o'
        have S0 : SU c (cup d 254 (b + 6) (d 253 15)) g5 e4 m := adv_su (c0 := c) (hE.up rfl rfl rfl (cup_row _ _ _ (by decide)) (cup_row _ _ _ (by decide))) (hT.up rfl (cup_row _ _ _ (by decide)) (cup_row _ _ _ (by decide))) (Or.inr (Or.inr (Or.inr x1))) k2 rfl q5 rfl
        have S1 : SU (cup c 56 i (d 253 15)) (cup d 254 (b + 6) (d 253 15)) (cup g1 56 i r2) e4 m := by
          rw [l1, l2, h15]
          exact S0.cupc (by decide) (by decide) (by decide) _ _
        have f1 : e4 253 18 = 0 := S1.f0 (by rw [cup_ne (by omega)]; exact hf)
        rcases num_pr (by omega) S1.2.2.1 S1.2.2.2 f1 k3 rfl rfl rfl q6 rfl rfl rfl rfl with ⟨v1, v2, v3, v4⟩ | ⟨v1, v2, v3⟩
        · rcases h with ⟨x5, o⟩ | ⟨x5, o⟩
          · omega
          · obtain ⟨l5, l6⟩ := oI o
            refine Or.inl ⟨l6, by omega, d 253 15, r7, ?_⟩
            rw [l5, l3]
            rw [show (((b + 2 : Nat) : Int)).toNat = b + 2 from rfl] at v4
            exact ((S1.cupd (k := 254) (by decide) (by decide) (b + 2) r7).cupc (k := 55) (by decide) (by decide) (by decide) i r7).tr (v4.cupc (k := 55) (by decide) (by decide) (by decide) i r7)
        · rcases h with ⟨x5, o⟩ | ⟨x5, o⟩
          · obtain ⟨l5, l6⟩ := oI o
            exact Or.inr ⟨l6, by omega, by rw [l5, l3]; exact v3.cupc (by decide) _ _⟩
          · omega
      rcases h' with ⟨y1, e4, q5, e5, s6, q6, o'⟩ | ⟨y1, e7, s8, q2, h'⟩
      · exact fin q5 q6 o'
      · obtain ⟨u3, u4⟩ := isg q2 rfl rfl
        rcases h' with ⟨y2, e4, q5, e5, s6, q6, o'⟩ | ⟨y2, e13, s14, q3, h'⟩
        · rw [u3] at q5
          exact fin q5 q6 o'
        · rw [u3] at q3
          obtain ⟨u5, u6⟩ := isg q3 rfl rfl
          rcases h' with ⟨y3, e4, q5, e5, s6, q6, o'⟩ | ⟨y3, e19, s20, q4, o'⟩
          · rw [u5] at q5
            exact fin q5 q6 o'
          · exfalso
            rw [h15] at hsg x2
            have n1 : d 253 15 ≠ 60 := fun e => by
              rcases u2 with ⟨v1, v2⟩ | ⟨v1, v2⟩
              · exact v1 y1
              · exact v2 ⟨h12, e⟩
            have n2 : d 253 15 ≠ 62 := fun e => by
              rcases u4 with ⟨v1, v2⟩ | ⟨v1, v2⟩
              · exact v1 y2
              · exact v2 ⟨h12, e⟩
            have n3 : d 253 15 ≠ 61 := fun e => by
              rcases u6 with ⟨v1, v2⟩ | ⟨v1, v2⟩
              · exact v1 y3
              · exact v2 ⟨h12, e⟩
            rcases hsg with e | e | e | e
            · exact x2 e
            · exact n1 e
            · exact n3 e
            · exact n2 e
    · exfalso
      rw [l2] at y
      rcases hsg with e | e | e | e <;> omega
  · obtain ⟨l1, l2⟩ := oI o
    exact Or.inr (bad (fun e => e.2 x2) k2 l1 l2)
theorem kmt : ∀ i : Nat, i < 25 → (km i = 23 ↔ i = 20) ∧ (km i = 9 ↔ i = 3) ∧ (km i = 24 ↔ i = 21) := by decide +kernel
/-- what a step writes beside the text: row i of the draft's trials, eight cells from b on -/
def ROW (i b : Nat) (c d c1 d1 : cg) : Prop := (∀ k j : Nat, ¬ (51 ≤ k ∧ k ≤ 56 ∧ j = i) → c1 k j = c k j) ∧ ∀ k j : Nat, ¬ (k = 254 ∧ b ≤ j ∧ j < b + 8) → d1 k j = d k j
theorem ROW.rf (i b : Nat) (c d : cg) : ROW i b c d c d := ⟨fun _ _ _ => rfl, fun _ _ _ => rfl⟩
theorem ROW.cc {i b k : Nat} {c d c1 d1 : cg} (h : ROW i b c d c1 d1) (h1 : 51 ≤ k) (h2 : k ≤ 56) (z : Int) : ROW i b c d (cup c1 k i z) d1 := ⟨fun k' j hn => by rw [cup_ne (fun e => hn ⟨by omega, by omega, e.2⟩)]; exact h.1 k' j hn, h.2⟩
theorem ROW.cd {i b j : Nat} {c d c1 d1 : cg} (h : ROW i b c d c1 d1) (h1 : b ≤ j) (h2 : j < b + 8) (z : Int) : ROW i b c d c1 (cup d1 254 j z) := ⟨h.1, fun k j' hn => by rw [cup_ne (fun e => hn ⟨e.1, by omega, by omega⟩)]; exact h.2 k j' hn⟩
/-- what row i of the draft's trials holds, on both sides -/
def VRW (c d : cg) (np nq i b : Nat) : Prop := ∃ K : Nat, K ≤ 8 ∧ c 51 i = (K : Int) ∧ d 254 b = (kdm K : Int) ∧ (K = 0 ∨ K = 1 ∨ K = 3 → ∃ W : Nat, W < nq ∧ c 52 i = (W : Int) ∧ d 254 (b + 1) = (W : Int)) ∧ (K = 5 → ∃ P : Nat, P < nq ∧ c 53 i = (P : Int) ∧ d 254 (b + 1) = (P : Int)) ∧ (K = 0 ∨ K = 1 ∨ K = 2 ∨ K = 6 → ∃ P : Nat, P < nq ∧ c 53 i = (P : Int) ∧ d 254 (b + 2) = (P : Int)) ∧ (K = 0 ∨ K = 2 ∨ K = 6 → ∃ Q T : Nat, Q < np ∧ T < 8 ∧ c 54 i = (Q : Int) ∧ d 254 (b + 3) = (Q : Int) ∧ c 55 i = (T : Int) ∧ d 254 (b + 4) = (T : Int)) ∧ (K = 4 ∨ K = 5 → c 56 i = d 254 (b + 6) ∧ c 55 i = d 254 (b + 2)) ∧ (K = 7 → ∃ v : Nat, 1 ≤ v ∧ v ≤ 99 ∧ c 55 i = (v : Int) ∧ d 254 (b + 1) = (v : Int))
theorem VRW.mvz {c d c' d' : cg} {np nq i b : Nat} (h : VRW c d np nq i b) (hc : ∀ k : Nat, 51 ≤ k → k ≤ 56 → c' k i = c k i) (hd : ∀ j : Nat, b ≤ j → j < b + 8 → j ≠ b + 5 → d' 254 j = d 254 j) : VRW c' d' np nq i b := by
  unfold VRW at *
  rw [hc 51 (by decide) (by decide), hc 52 (by decide) (by decide), hc 53 (by decide) (by decide), hc 54 (by decide) (by decide), hc 55 (by decide) (by decide), hc 56 (by decide) (by decide), hd b (by omega) (by omega) (by omega), hd (b + 1) (by omega) (by omega) (by omega), hd (b + 2) (by omega) (by omega) (by omega), hd (b + 3) (by omega) (by omega) (by omega), hd (b + 4) (by omega) (by omega) (by omega), hd (b + 6) (by omega) (by omega) (by omega)]
  exact h
/-- a TEST -/
theorem test_pr {i b : Nat} (hi : i < 60) (hb : b + 8 < 5208) (hb1 : 2 ≤ b) (hW : WN c d np nq) (hE : TE c d m) (hT : TQ c d m) (hf : d 253 18 = 0) (h : zr sv L n 71 0 lf [] c (c', some (0, r))) (h0 : lf 0 = (4, 90)) (h1 : lf 1 = (0, (i : Int))) (h' : zr sv L n' 195 0 lf' [] d (d', some (0, r'))) (h0' : lf' 0 = (4, 253)) (h1' : lf' 1 = (0, (b : Int))) : (r = 1 ∧ r' = 1 ∧ ∃ c1 d1, ROW i b c d c1 d1 ∧ (VRW c1 d1 np nq i b ∧ 4 ≤ c1 51 i ∧ c1 51 i ≤ 7) ∧ SU c1 d1 c' d' m) ∨ (r = 0 ∧ r' = 0 ∧ FLT c' d') := by
  obtain ⟨e1, s2, q1, h'⟩ := m_test h' h0' h1'
  obtain ⟨u1, u2⟩ := tq_key hE hT q1 rfl rfl
  rw [u1, show ((b : Int)).toNat = b from rfl] at h'
  have h := t_test h h0 h1
  rw [show ((i : Int)).toNat = i from rfl] at h
  have hrow : ∀ x : Int, ∀ k : Nat, k ≠ 51 → cup c 51 i x k = c k := fun x k hk => cup_row _ _ _ hk
  have E1 : ∀ x : Int, TE (cup c 51 i x) (cup d 254 b (w32 (1900 + s2))) m := fun x => hE.up (hrow x 88 (by decide)) (hrow x 2 (by decide)) (hrow x 89 (by decide)) (cup_row _ _ _ (by decide)) (cup_row _ _ _ (by decide))
  have T1 : ∀ x : Int, TQ (cup c 51 i x) (cup d 254 b (w32 (1900 + s2))) m := fun x => hT.up (hrow x 88 (by decide)) (cup_row _ _ _ (by decide)) (cup_row _ _ _ (by decide))
  have R1 : ∀ x : Int, ROW i b c d (cup c 51 i x) (cup d 254 b (w32 (1900 + s2))) := fun x => ((ROW.rf i b c d).cc (k := 51) (by decide) (by decide) x).cd (j := b) (by omega) (by omega) _
  -- the key here
  have kk : c 88 7 ≠ -1 → ∀ x : Int, cup c 51 i x 88 4 = 1 := fun hk x => by rw [hrow x 88 (by decide)]; exact tq_kk hT hk
  have two : (c 88 7 = 20 ∨ c 88 7 = 3) → ∀ {x : Int} {g5 e4 : cg}, zr sv L n 37 0 (darg 0 [(4, 88)]) [] (cup c 51 i x) (g5, none) → zr sv L n' 166 0 (darg 0 [(4, 253)]) [] (cup d 254 b (w32 (1900 + s2))) (e4, none) → SU (cup c 51 i x) (cup d 254 b (w32 (1900 + s2))) g5 e4 m ∧ (g5 88 4 = 5 → sgn (g5 88 9)) := fun hk x g5 e4 k2 q2 =>
    ⟨adv_su (c0 := c) (E1 x) (T1 x) (Or.inl (kk (by omega) x)) k2 rfl q2 rfl, adv_sn2 (E1 x) (T1 x) (Or.inl (kk (by omega) x)) k2 rfl⟩
  rcases h with ⟨x1, ⟨x2, ⟨x3, g5, k2, h⟩ | ⟨x3, g14, r15, k2, o⟩⟩ | ⟨x2, g17, k2, h⟩⟩ | ⟨x1, g26, k2, g27, r28, k3, o⟩
  · -- till
    have hs2 : s2 = 23 := by
      rcases u2 with ⟨z1, z2⟩ | ⟨w, z1, z2, z3⟩
      · omega
      · have : w = 20 := by omega
        rw [z3, this]; rfl
    rcases h' with ⟨y1, e4, q2, ly, v0, v1, h'⟩ | ⟨y1, -⟩
    · obtain ⟨S, sn⟩ := two (Or.inl x3) k2 q2
      rcases h (by omega) (by omega) with ⟨y2, lx, z0, z1, h⟩ | ⟨y2, -⟩
      · rcases t123_pr hi hb S.2.2.1 S.2.2.2 (S.f0 (by rw [cup_ne (by omega)]; exact hf)) sn h z0 z1 h' v0 v1 with ⟨w1, w2, s, v, w3⟩ | w
        · exact Or.inl ⟨w1, w2, _, _, (((R1 4).cc (k := 56) (by decide) (by decide) s).cc (k := 55) (by decide) (by decide) v |>.cd (j := b + 6) (by omega) (by omega) s).cd (j := b + 2) (by omega) (by omega) v, ⟨⟨4, by decide, by rw [cup_ne (by omega), cup_ne (by omega), cup_at]; rfl, by rw [cup_ne (by omega), cup_ne (by omega), cup_at, hs2]; decide, fun q => absurd q (by decide), fun q => absurd q (by decide), fun q => absurd q (by decide), fun q => absurd q (by decide), fun _ => ⟨by rw [cup_ne (by omega), cup_at, cup_ne (by omega), cup_at], by rw [cup_at, cup_at]⟩, fun q => absurd q (by decide)⟩, by rw [cup_ne (by omega), cup_ne (by omega), cup_at]; decide, by rw [cup_ne (by omega), cup_ne (by omega), cup_at]; decide⟩, ((((S.cupd (k := 254) (by decide) (by decide) (b + 6) s).cupd (k := 254) (by decide) (by decide) (b + 2) v).cupc (k := 56) (by decide) (by decide) (by decide) i s).cupc (k := 55) (by decide) (by decide) (by decide) i v).tr w3⟩
        · exact Or.inr w
      · exfalso
        rw [S.1.1.row (k := 51) (by decide), cup_at] at y2
        omega
    · exact absurd hs2 y1
  · -- none of these
    have hs2 : s2 ≠ 23 ∧ s2 ≠ 9 ∧ s2 ≠ 24 := by
      rcases u2 with ⟨z1, z2⟩ | ⟨w, z1, z2, z3⟩
      · omega
      · obtain ⟨t1, t2, t3⟩ := kmt w z1
        refine ⟨fun e => ?_, fun e => ?_, fun e => ?_⟩
        · have := t1.mp (by omega); omega
        · have := t2.mp (by omega); omega
        · have := t3.mp (by omega); omega
    rcases h' with ⟨y1, -⟩ | ⟨y1, ⟨y2, -⟩ | ⟨y2, ⟨y3, -⟩ | ⟨y3, e21, s22, q2, o'⟩⟩⟩
    · exact absurd y1 hs2.1
    · exact absurd y2 hs2.2.1
    · exact absurd y3 hs2.2.2
    · obtain ⟨l1, l2⟩ := oI o
      obtain ⟨l3, l4⟩ := oI o'
      obtain ⟨z3, z4, z5⟩ := fail_pr (hT.up (hrow 4 88 (by decide)) rfl rfl) hf (by decide) k2 rfl rfl q2 rfl rfl
      exact Or.inr ⟨by rw [l2, z3], by rw [l4, z4], by rw [l1, l3]; exact z5⟩
  · -- purse
    have hs2 : s2 = 9 := by
      rcases u2 with ⟨z1, z2⟩ | ⟨w, z1, z2, z3⟩
      · omega
      · have : w = 3 := by omega
        rw [z3, this]; rfl
    rcases h' with ⟨y1, -⟩ | ⟨y1, ⟨y2, e9, q2, e12, s13, q3, h'⟩ | ⟨y2, -⟩⟩
    · omega
    · obtain ⟨S, sn⟩ := two (Or.inr x2) k2 q2
      rcases h (by omega) (by omega) with ⟨y3, -⟩ | ⟨y3, g22, r23, k3, h⟩
      · exfalso
        rw [S.1.1.row (k := 51) (by decide), cup_at] at y3
        exact y3 rfl
      · have f1 : e9 253 18 = 0 := S.f0 (by rw [cup_ne (by omega)]; exact hf)
        have W1 : WN g17 e9 np nq := hW.fr (fun k hk => by rw [S.1.1.row (by omega), cup_row _ _ _ (by omega)]) (by rw [S.2.1.row (by decide), cup_ne (by omega)]) (by rw [S.2.1.row (by decide), cup_ne (by omega)]) (by rw [S.2.1.row (by decide), cup_row _ _ _ (by decide)])
        rw [show w32 ((b : Int) + 1) = ((b + 1 : Nat) : Int) by rw [w32_id (by omega) (by omega)]; rfl] at q3
        have hsub := sub_pr hi (by omega) W1 S.2.2.1 S.2.2.2 f1 k3 rfl rfl q3 rfl rfl
        rcases hsub with ⟨w1, w2, p, w3, w4⟩ | ⟨w1, w2, w3⟩
        · rcases h with ⟨w5, lx, z0, z1, h⟩ | ⟨w5, -⟩
          · rcases h' with ⟨w6, ly, v0, v1, h'⟩ | ⟨w6, -⟩
            · have sn2 : g22 88 4 = 5 → sgn (g22 88 9) := by
                obtain ⟨h1', r2, k4, hx⟩ := t_sub k3 rfl rfl
                rcases hx (by omega) (by omega) with ⟨a1, a2⟩ | ⟨a1, a2⟩
                · obtain ⟨a3, a4⟩ := oI a2
                  omega
                · obtain ⟨a3, a4⟩ := oI a2
                  rw [a3, cup_row _ _ _ (by decide)]
                  rcases t_rPer k4 rfl rfl with ⟨b1, lz, b2, b3, hz⟩ | ⟨b1, g3, r4, k5, lz, b2, b3, hz⟩
                  · rcases t_rPer21 hz b2 b3 with ⟨c1, -⟩ | ⟨c1, ⟨c2, g4, r5, k6, c3⟩ | ⟨c2, -⟩⟩
                    · exact absurd rfl c1
                    · exact absurd (oI c3).2 a1
                    · exact absurd c2 b1
                  · obtain ⟨-, ⟨n1, n2, n3, n4⟩, n5, n6⟩ := W1
                    obtain ⟨f3, -⟩ := nper_ok k5 rfl rfl n3 hW.1.2
                    rw [f3] at hz
                    rcases t_rPer21 hz b2 b3 with ⟨c1, g2, k6, c2⟩ | ⟨c1, ⟨c2, g4, r5, k6, c3⟩ | ⟨c2, g4, r5, k6, c3⟩⟩
                    · obtain ⟨c3, c4⟩ := oI c2
                      rw [c3]
                      exact adv_sn2 S.2.2.1 S.2.2.2 (Or.inr (Or.inl b1)) k6 rfl
                    · have := (oI c3).2
                      omega
                    · have := (oI c3).2
                      omega
              have SS : SU (cup (cup c 51 i 5) 53 i (p : Int)) (cup (cup d 254 b (w32 (1900 + s2))) 254 (b + 1) (p : Int)) g22 e12 m := ((S.cupd (k := 254) (by decide) (by decide) (b + 1) (p : Int)).cupc (k := 53) (by decide) (by decide) (by decide) i (p : Int)).tr w4
              rcases t123_pr hi hb w4.2.2.1 w4.2.2.2 (SS.f0 (by rw [cup_ne (by omega), cup_ne (by omega)]; exact hf)) sn2 h z0 z1 h' v0 v1 with ⟨j1, j2, s, v, j3⟩ | j
              · exact Or.inl ⟨j1, j2, _, _, (((((R1 5).cc (k := 53) (by decide) (by decide) (p : Int)).cd (j := b + 1) (by omega) (by omega) (p : Int)).cc (k := 56) (by decide) (by decide) s).cc (k := 55) (by decide) (by decide) v |>.cd (j := b + 6) (by omega) (by omega) s).cd (j := b + 2) (by omega) (by omega) v, ⟨⟨5, by decide, by rw [cup_ne (by omega), cup_ne (by omega), cup_ne (by omega), cup_at]; rfl, by rw [cup_ne (by omega), cup_ne (by omega), cup_ne (by omega), cup_at, hs2]; decide, fun q => absurd q (by decide), fun _ => ⟨p, w3, by rw [cup_ne (by omega), cup_ne (by omega), cup_at], by rw [cup_ne (by omega), cup_ne (by omega), cup_at]⟩, fun q => absurd q (by decide), fun q => absurd q (by decide), fun _ => ⟨by rw [cup_ne (by omega), cup_at, cup_ne (by omega), cup_at], by rw [cup_at, cup_at]⟩, fun q => absurd q (by decide)⟩, by rw [cup_ne (by omega), cup_ne (by omega), cup_ne (by omega), cup_at]; decide, by rw [cup_ne (by omega), cup_ne (by omega), cup_ne (by omega), cup_at]; decide⟩, ((((SS.cupd (k := 254) (by decide) (by decide) (b + 6) s).cupd (k := 254) (by decide) (by decide) (b + 2) v).cupc (k := 56) (by decide) (by decide) (by decide) i s).cupc (k := 55) (by decide) (by decide) (by decide) i v).tr j3⟩
              · exact Or.inr j
            · omega
          · omega
        · rcases h with ⟨w5, -⟩ | ⟨w5, o⟩
          · omega
          · rcases h' with ⟨w6, -⟩ | ⟨w6, o'⟩
            · omega
            · obtain ⟨l1, l2⟩ := oI o
              obtain ⟨l3, l4⟩ := oI o'
              exact Or.inr ⟨l2, l4, by rw [l1, l3]; exact w3⟩
    · exact absurd hs2 y2
  · -- stands
    have hs2 : s2 = 24 := by
      rcases u2 with ⟨z1, z2⟩ | ⟨w, z1, z2, z3⟩
      · omega
      · have : w = 21 := by omega
        rw [z3, this]; rfl
    rcases h' with ⟨y1, -⟩ | ⟨y1, ⟨y2, -⟩ | ⟨y2, ⟨y3, e17, q2, e19, s20, q3, o'⟩ | ⟨y3, -⟩⟩⟩
    · omega
    · omega
    · have S : SU (cup c 51 i 6) (cup d 254 b (w32 (1900 + s2))) g26 e17 m := adv_su (c0 := c) (E1 6) (T1 6) (Or.inl (kk (by omega) 6)) k2 rfl q2 rfl
      have W1 : WN g26 e17 np nq := hW.fr (fun k hk => by rw [S.1.1.row (by omega), cup_row _ _ _ (by omega)]) (by rw [S.2.1.row (by decide), cup_ne (by omega)]) (by rw [S.2.1.row (by decide), cup_ne (by omega)]) (by rw [S.2.1.row (by decide), cup_row _ _ _ (by decide)])
      obtain ⟨l1, l2⟩ := oI o
      obtain ⟨l3, l4⟩ := oI o'
      rcases whr_pr hi hb hb1 W1 S.2.2.1 S.2.2.2 (S.f0 (by rw [cup_ne (by omega)]; exact hf)) k3 rfl rfl q3 rfl rfl with ⟨w1, w2, p, q, t, w3, w4, w5, w6⟩ | ⟨w1, w2, w3⟩
      · refine Or.inl ⟨by omega, by omega, _, _, ((((((R1 6).cc (k := 53) (by decide) (by decide) (p : Int)).cc (k := 54) (by decide) (by decide) (q : Int)).cc (k := 55) (by decide) (by decide) (t : Int)).cd (j := b + 2) (by omega) (by omega) (p : Int)).cd (j := b + 3) (by omega) (by omega) (q : Int)).cd (j := b + 4) (by omega) (by omega) (t : Int), ⟨⟨6, by decide, by rw [cup_ne (by omega), cup_ne (by omega), cup_ne (by omega), cup_at]; rfl, by rw [cup_ne (by omega), cup_ne (by omega), cup_ne (by omega), cup_at, hs2]; decide, fun q => absurd q (by decide), fun q => absurd q (by decide), fun _ => ⟨p, w3, by rw [cup_ne (by omega), cup_ne (by omega), cup_at], by rw [cup_ne (by omega), cup_ne (by omega), cup_at]⟩, fun _ => ⟨q, t, w4, w5, by rw [cup_ne (by omega), cup_at], by rw [cup_ne (by omega), cup_at], by rw [cup_at], by rw [cup_at]⟩, fun q => absurd q (by decide), fun q => absurd q (by decide)⟩, by rw [cup_ne (by omega), cup_ne (by omega), cup_ne (by omega), cup_at]; decide, by rw [cup_ne (by omega), cup_ne (by omega), cup_ne (by omega), cup_at]; decide⟩, ?_⟩
        rw [l1, l3]
        exact ((((((S.cupd (k := 254) (by decide) (by decide) (b + 2) (p : Int)).cupd (k := 254) (by decide) (by decide) (b + 3) (q : Int)).cupd (k := 254) (by decide) (by decide) (b + 4) (t : Int)).cupc (k := 53) (by decide) (by decide) (by decide) i (p : Int)).cupc (k := 54) (by decide) (by decide) (by decide) i (q : Int)).cupc (k := 55) (by decide) (by decide) (by decide) i (t : Int)).tr w6
      · exact Or.inr ⟨by omega, by omega, by rw [l1, l3]; exact w3⟩
    · exact absurd hs2 y3
theorem TE.c253 (h : TE c d m) {j : Nat} (hj : j ≠ 11 ∧ j ≠ 17) (z : Int) : TE c (cup d 253 j z) m := by
  obtain ⟨a1, a2, a3, a4, a5, a6, a7, k1, k2, k3⟩ := h
  refine ⟨a1, a2, ?_, a4, ?_, ?_, a7, k1, k2, by rw [cup_ne (by omega)]; exact k3⟩
  · rw [cup_ne (by omega)]; exact a3
  · unfold MBY at *
    rw [cup_row _ _ _ (by decide)]
    exact a5
  · rw [cup_row _ _ _ (by decide)]; exact a6
theorem TQ.c253 (h : TQ c d m) {j : Nat} (hj : j < 12 ∨ 15 < j) (z : Int) : TQ c (cup d 253 j z) m := by
  have hb : mb (cup d 253 j z) = mb d := by
    funext i
    unfold mb
    rw [cup_row _ _ _ (by decide)]
  unfold TQ at *
  rw [hb, cup_ne (g := d) (by omega), cup_ne (g := d) (by omega), cup_ne (g := d) (by omega), cup_ne (g := d) (by omega)]
  exact h
/-- between two steps: what both readers have in common -/
def TS (c d : cg) (m n dp s np nq : Nat) : Prop := TE c d m ∧ TQ c d m ∧ d 253 18 = 0 ∧ WN c d np nq ∧ (c 50 2 = (n : Int) ∧ d 254 2983 = (n : Int) ∧ c 90 6 = (dp : Int) ∧ d 253 22 = (dp : Int) ∧ c 50 1 = (s : Int) ∧ d 253 23 = (s : Int)) ∧ (s ≤ 30 ∧ dp ≤ 3 ∧ n + dp ≤ 2 * s) ∧ ∀ k : Nat, k < dp → ∃ o : Nat, o < n ∧ c 91 k = (o : Int) ∧ d 261 k = (o : Int)
theorem TS.su {n dp s : Nat} (h : TS c d m n dp s np nq) (S : SU c d c' d' m) : TS c' d' m n dp s np nq := by
  obtain ⟨-, -, a3, a4, ⟨b1, b2, b3, b4, b5, b6⟩, a6, a7⟩ := h
  refine ⟨S.2.2.1, S.2.2.2, S.f0 a3, a4.su S, ⟨?_, ?_, ?_, ?_, ?_, ?_⟩, a6, fun k hk => ?_⟩
  · rw [S.1.1.row (k := 50) (by decide)]; exact b1
  · rw [S.2.1.row (k := 254) (by decide)]; exact b2
  · rw [S.1.1.row (k := 90) (by decide)]; exact b3
  · rw [S.2.1 253 22 (by omega)]; exact b4
  · rw [S.1.1.row (k := 50) (by decide)]; exact b5
  · rw [S.2.1 253 23 (by omega)]; exact b6
  · rw [S.1.1.row (k := 91) (by decide), S.2.1.row (k := 261) (by decide)]; exact a7 k hk
/-- what ahead of the sign at the end of a step is as it was, but for row n -/
def FRM (n r : Nat) (c4 d3 g e : cg) : Prop := (∀ k j : Nat, k ≠ 88 → ¬ (51 ≤ k ∧ k ≤ 56 ∧ j = n) → g k j = c4 k j) ∧ (∀ k j : Nat, ¬ (k = 253 ∧ 12 ≤ j ∧ j ≤ 15) → ¬ (k = 254 ∧ r ≤ j ∧ j < r + 8) → e k j = d3 k j) ∧ c4 88 5 ≤ g 88 5
theorem FRM.of {i b : Nat} {c4 d3 g6 e1 c1 d1 g7 e2 : cg} (h1 : SU c4 d3 g6 e1 m) (h2 : ROW i b g6 e1 c1 d1) (h3 : SU c1 d1 g7 e2 m) : FRM i b c4 d3 g7 e2 := by
  refine ⟨fun k j k1 k2 => ?_, fun k j k1 k2 => ?_, ?_⟩
  · rw [h3.1.1.row k1, h2.1 k j k2, h1.1.1.row k1]
  · rw [h3.2.1 k j k1, h2.2 k j k2, h1.2.1 k j k1]
  · have a := h1.1.2
    have b := h3.1.2
    rw [h2.1 88 5 (by omega)] at b
    omega
/-- the reference's memory when a step's row is begun -/
def BEG (n s : Nat) (d d3 : cg) : Prop := (∀ k j : Nat, ¬ (k = 253 ∧ j = 23) → ¬ (k = 254 ∧ 3236 + 8 * n ≤ j ∧ j < 3236 + 8 * n + 8) → ¬ (k = 254 ∧ j = 2983) → d3 k j = d k j) ∧ d3 253 23 = ((s + 1 : Nat) : Int) ∧ d3 254 2983 = ((n + 1 : Nat) : Int)
def c4o (c : cg) (n dp s : Nat) : cg := cup (cup (cup (cup (cup c 58 n (dp : Int)) 91 dp (n : Int)) 90 6 ((dp + 1 : Nat) : Int)) 50 2 ((n + 1 : Nat) : Int)) 50 1 ((s + 1 : Nat) : Int)
def c4n (c : cg) (n s : Nat) : cg := cup (cup c 50 2 ((n + 1 : Nat) : Int)) 50 1 ((s + 1 : Nat) : Int)
theorem fin_n {n dp s : Nat} {d3 g e : cg} (h : TS c d m n dp s np nq) (hs : s < 30) (hB : BEG n s d d3) (hF : FRM n (3236 + 8 * n) (c4n c n s) d3 g e) (hE : TE g e m) (hT : TQ g e m) : TS g e m (n + 1) dp (s + 1) np nq := by
  obtain ⟨-, -, a3, a4, ⟨b1, b2, b3, b4, b5, b6⟩, ⟨w1, w2, w3⟩, a7⟩ := h
  obtain ⟨B1, B2, B3⟩ := hB
  obtain ⟨F1, F2, -⟩ := hF
  have C : ∀ k j : Nat, k ≠ 50 → c4n c n s k j = c k j := fun k j hk => by unfold c4n; rw [cup_ne (by omega), cup_ne (by omega)]
  refine ⟨hE, hT, ?_, ?_, ⟨?_, ?_, ?_, ?_, ?_, ?_⟩, ⟨by omega, w2, by omega⟩, fun k hk => ?_⟩
  · rw [F2 253 18 (by omega) (by omega), B1 253 18 (by omega) (by omega) (by omega)]; exact a3
  · exact a4.fr (fun k hk => funext fun j => by rw [F1 k j (by omega) (by omega), C k j (by omega)]) (by rw [F2 254 0 (by omega) (by omega), B1 254 0 (by omega) (by omega) (by omega)]) (by rw [F2 254 1 (by omega) (by omega), B1 254 1 (by omega) (by omega) (by omega)]) (funext fun j => by rw [F2 255 j (by omega) (by omega), B1 255 j (by omega) (by omega) (by omega)])
  · rw [F1 50 2 (by omega) (by omega)]; unfold c4n; rw [cup_ne (by omega), cup_at]
  · rw [F2 254 2983 (by omega) (by omega)]; exact B3
  · rw [F1 90 6 (by omega) (by omega), C 90 6 (by omega)]; exact b3
  · rw [F2 253 22 (by omega) (by omega), B1 253 22 (by omega) (by omega) (by omega)]; exact b4
  · rw [F1 50 1 (by omega) (by omega)]; unfold c4n; rw [cup_at]
  · rw [F2 253 23 (by omega) (by omega)]; exact B2
  · obtain ⟨o, o1, o2, o3⟩ := a7 k hk
    exact ⟨o, by omega, by rw [F1 91 k (by omega) (by omega), C 91 k (by omega)]; exact o2, by rw [F2 261 k (by omega) (by omega), B1 261 k (by omega) (by omega) (by omega)]; exact o3⟩
theorem fin_o {n dp s : Nat} {d3 g e : cg} (h : TS c d m n dp s np nq) (hs : s < 30) (hd : dp < 3) (hB : BEG n s d d3) (hF : FRM n (3236 + 8 * n) (c4o c n dp s) d3 g e) (hE : TE g e m) (hT : TQ g e m) : TS g (cup (cup e 261 dp (n : Int)) 253 22 ((dp + 1 : Nat) : Int)) m (n + 1) (dp + 1) (s + 1) np nq := by
  obtain ⟨-, -, a3, a4, ⟨b1, b2, b3, b4, b5, b6⟩, ⟨w1, w2, w3⟩, a7⟩ := h
  obtain ⟨B1, B2, B3⟩ := hB
  obtain ⟨F1, F2, -⟩ := hF
  have C : ∀ k j : Nat, k ≠ 50 → k ≠ 90 → k ≠ 91 → k ≠ 58 → c4o c n dp s k j = c k j := fun k j k1 k2 k3 k4 => by unfold c4o; rw [cup_ne (by omega), cup_ne (by omega), cup_ne (by omega), cup_ne (by omega), cup_ne (by omega)]
  refine ⟨(hE.up rfl rfl rfl (cup_row _ _ _ (by decide)) (cup_row _ _ _ (by decide))).c253 (by omega) _, (hT.up rfl (cup_row _ _ _ (by decide)) (cup_row _ _ _ (by decide))).c253 (by omega) _, ?_, ?_, ⟨?_, ?_, ?_, ?_, ?_, ?_⟩, ⟨by omega, by omega, by omega⟩, fun k hk => ?_⟩
  · rw [cup_ne (by omega), cup_ne (by omega), F2 253 18 (by omega) (by omega), B1 253 18 (by omega) (by omega) (by omega)]; exact a3
  · exact a4.fr (fun k hk => funext fun j => by rw [F1 k j (by omega) (by omega), C k j (by omega) (by omega) (by omega) (by omega)]) (by rw [cup_ne (by omega), cup_ne (by omega), F2 254 0 (by omega) (by omega), B1 254 0 (by omega) (by omega) (by omega)]) (by rw [cup_ne (by omega), cup_ne (by omega), F2 254 1 (by omega) (by omega), B1 254 1 (by omega) (by omega) (by omega)]) (funext fun j => by rw [cup_ne (by omega), cup_ne (by omega), F2 255 j (by omega) (by omega), B1 255 j (by omega) (by omega) (by omega)])
  · rw [F1 50 2 (by omega) (by omega)]; unfold c4o; rw [cup_ne (by omega), cup_at]
  · rw [cup_ne (by omega), cup_ne (by omega), F2 254 2983 (by omega) (by omega)]; exact B3
  · rw [F1 90 6 (by omega) (by omega)]; unfold c4o; rw [cup_ne (by omega), cup_ne (by omega), cup_at]
  · rw [cup_at]
  · rw [F1 50 1 (by omega) (by omega)]; unfold c4o; rw [cup_at]
  · rw [cup_ne (by omega), cup_ne (by omega), F2 253 23 (by omega) (by omega)]; exact B2
  · by_cases e : k = dp
    · subst e
      refine ⟨n, by omega, ?_, by rw [cup_ne (by omega), cup_at]⟩
      rw [F1 91 k (by omega) (by omega)]; unfold c4o; rw [cup_ne (by omega), cup_ne (by omega), cup_ne (by omega), cup_at]
    · obtain ⟨o, o1, o2, o3⟩ := a7 k (by omega)
      refine ⟨o, by omega, ?_, by rw [cup_ne (by omega), cup_ne (by omega), F2 261 k (by omega) (by omega), B1 261 k (by omega) (by omega) (by omega)]; exact o3⟩
      rw [F1 91 k (by omega) (by omega)]; unfold c4o; rw [cup_ne (by omega), cup_ne (by omega), cup_ne (by omega), cup_ne (by omega), cup_ne (by omega)]; exact o2
/-- zeros in a row's other cells -/
theorem zer_l {a b dd : Int} {R : Nat} (hR : R + 8 < 5208) {o : cg × Option cv} : ∀ (N : Nat) {lf : dlf} {g : cg} {e : Nat}, lf 0 = (4, 253) → lf 1 = (0, a) → lf 2 = (0, b) → lf 3 = (0, (R : Int)) → lf 4 = (0, dd) → lf 5 = (0, (e : Int)) → 1 ≤ e → e ≤ 8 → zr sv L N 193 153 lf [] g o → ∃ M g1 lf1, lf1 0 = (4, 253) ∧ lf1 1 = (0, a) ∧ lf1 2 = (0, b) ∧ lf1 3 = (0, (R : Int)) ∧ lf1 4 = (0, dd) ∧ zr sv L M 193 176 lf1 [] g1 o ∧ ∀ k j : Nat, ¬ (k = 254 ∧ R + 1 ≤ j ∧ j < R + 8) → g1 k j = g k j
  | 0, _, _, _, _, _, _, _, _, _, _, _, h => (zr_0 h).elim
  | N + 1, lf, g, e, h0, h1, h2, h3, h4, h5, he, he', h => by
    rcases m_stp153 h h0 h1 h2 h3 h4 h5 with ⟨x, lx, z0, z1, z2, z3, z4, h⟩ | ⟨x, lx, z0, z1, z2, z3, z4, z5, h⟩
    · exact ⟨N, g, lx, z0, z1, z2, z3, z4, h, fun _ _ _ => rfl⟩
    · rw [show (w32 ((R : Int) + (e : Int))).toNat = R + e by rw [w32_id (by omega) (by omega)]; omega] at h
      obtain ⟨M, g1, lf1, y0, y1, y2, y3, y4, y5, y6⟩ := zer_l hR N (e := e + 1) z0 z1 z2 z3 z4 (by rw [z5, w32_id (by omega) (by omega)]; rfl) (by omega) (by omega) h
      exact ⟨M, g1, lf1, y0, y1, y2, y3, y4, y5, fun k j hn => by rw [y6 k j hn, cup_ne (by omega)]⟩
theorem kms : ∀ i : Nat, i < 25 → ((i = 14 ∨ i = 16 ∨ i = 17 ∨ i = 18 ∨ i = 19 ∨ i = 22 ∨ i = 24) ∧ 14 ≤ km i ∧ km i ≤ 22 ∧ km i ≠ 15 ∧ km i ≠ 21) ∨ (i = 23 ∧ km i = 21) ∨ (¬ (i = 14 ∨ i = 16 ∨ i = 17 ∨ i = 18 ∨ i = 19 ∨ i = 22 ∨ i = 24) ∧ (km i < 14 ∨ 22 < km i ∨ km i = 15)) := by decide +kernel
theorem fail0 {x : Int} {g1 : cg} {y : Int} (h : zr sv L n 39 0 lf [] c (g1, some (0, y))) (h0 : lf 0 = (4, 88)) (h1 : lf 1 = (0, x)) : y = 0 := by
  rcases t_fail h h0 h1 with ⟨_, o⟩ | ⟨_, o⟩ <;> exact (oI o).2
theorem TE.gen (h : TE c d m) (h1 : c' 88 = c 88) (h2 : c' 2 = c 2) (h3 : c' 89 = c 89) (h4 : d' 253 11 = d 253 11) (h5 : d' 260 = d 260) (h6 : d' 253 17 = d 253 17) : TE c' d' m := by
  unfold TE MBY at *
  rw [h1, h2, h3, h4, h5, h6]
  exact h
theorem TQ.gen (h : TQ c d m) (h1 : c' 88 = c 88) (h4 : ∀ j : Nat, 12 ≤ j → j ≤ 15 → d' 253 j = d 253 j) (h5 : d' 260 = d 260) : TQ c' d' m := by
  have hb : mb d' = mb d := by
    funext j
    unfold mb
    rw [h5]
  unfold TQ at *
  rw [h1, hb, h4 12 (by omega) (by omega), h4 13 (by omega) (by omega), h4 14 (by omega) (by omega), h4 15 (by omega) (by omega)]
  exact h
/-- a step's word -/
def SK (K : Int) : Prop := K = 14 ∨ K = 16 ∨ K = 17 ∨ K = 18 ∨ K = 19 ∨ K = 22 ∨ K = 24
def OP (K : Int) : Prop := K = 19 ∨ K = 22
/-- which FAULT a step begins with -/
def FK3 (K : Int) (dp s : Nat) (f : Int) : Prop := (f = 2 ∧ ¬ SK K) ∨ (f = 6 ∧ SK K ∧ 30 ≤ s) ∨ (f = 7 ∧ SK K ∧ s < 30 ∧ OP K ∧ 3 ≤ dp)
theorem FK3.un {K : Int} {dp s : Nat} {f f' : Int} (h : FK3 K dp s f) (h' : FK3 K dp s f') : f = f' := by
  rcases h with ⟨a1, a2⟩ | ⟨a1, a2, a3⟩ | ⟨a1, a2, a3, a4, a5⟩ <;> rcases h' with ⟨b1, b2⟩ | ⟨b1, b2, b3⟩ | ⟨b1, b2, b3, b4, b5⟩ <;> first | omega | exact absurd b2 a2 | exact absurd a2 b2
theorem may_ok {np0 dp s : Nat} {K : Int} {g1 : cg} {r2 : Int} (h6 : c 90 6 = (dp : Int)) (h1' : c 50 1 = (s : Int)) (h2 : c 50 2 = (np0 : Int)) (hb : s < 30 → np0 < 60) (h : zr sv L n 68 0 lf [] c (g1, some (0, r2))) (h0 : lf 0 = (4, 90)) (h1 : lf 1 = (0, K)) : (r2 ≠ 0 ∧ g1 = c ∧ SK K ∧ s < 30 ∧ (OP K → dp < 3)) ∨ (r2 = 0 ∧ ∃ f y, FK3 K dp s f ∧ zr sv L n 39 0 (darg 0 [(4, 88), (0, f)]) [] c (g1, some (0, y))) := by
  obtain ⟨e1, s2, k1, h⟩ := t_mayB h h0 h1
  have st : e1 = c ∧ ((s2 = 1 ∧ SK K) ∨ (s2 = 0 ∧ ¬ SK K)) := by
    unfold SK
    rcases t_isStep k1 rfl with ⟨x, o⟩ | ⟨x, ⟨x2, o⟩ | ⟨x2, ⟨x3, o⟩ | ⟨x3, ⟨x4, o⟩ | ⟨x4, ⟨x5, o⟩ | ⟨x5, ⟨x6, o⟩ | ⟨x6, ⟨x7, o⟩ | ⟨x7, o⟩⟩⟩⟩⟩⟩⟩ <;> obtain ⟨l1, l2⟩ := oI o <;> exact ⟨l1, by omega⟩
  obtain ⟨l1, l2⟩ := st
  rw [l1] at h
  rcases h with ⟨x1, h⟩ | ⟨x1, g20, r21, k2, o⟩
  · have hsk : SK K := by
      rcases l2 with ⟨_, b⟩ | ⟨a, _⟩
      · exact b
      · (try clear h); (try clear h'); omega
    rcases h with ⟨x2, g5, r6, k2, o⟩ | ⟨x2, h⟩
    · obtain ⟨u1, u2⟩ := oI o
      rw [u1, u2]
      exact Or.inr ⟨fail0 k2 rfl rfl, 6, _, Or.inr (Or.inl ⟨rfl, hsk, by omega⟩), k2⟩
    · have hs : s < 30 := by omega
      have := hb hs
      rcases h with ⟨x3, h⟩ | ⟨x3, g18, r19, k2, o⟩
      · rcases h with ⟨x4, ⟨x5, o⟩ | ⟨x5, g10, r11, k2, h⟩⟩ | ⟨x4, ⟨x5, o⟩ | ⟨x5, ⟨x6, o⟩ | ⟨x6, g15, r16, k2, h⟩⟩⟩
        · obtain ⟨u1, u2⟩ := oI o
          exact Or.inl ⟨by omega, u1, hsk, hs, fun _ => by omega⟩
        · rcases h with ⟨x6, o⟩ | ⟨x6, o⟩
          · obtain ⟨u1, u2⟩ := oI o
            rw [u1]
            exact Or.inr ⟨u2, 7, _, Or.inr (Or.inr ⟨rfl, hsk, hs, Or.inl x4, by omega⟩), k2⟩
          · exact absurd (fail0 k2 rfl rfl) x6
        · obtain ⟨u1, u2⟩ := oI o
          exact Or.inl ⟨by omega, u1, hsk, hs, fun e => by unfold OP at e; omega⟩
        · obtain ⟨u1, u2⟩ := oI o
          exact Or.inl ⟨by omega, u1, hsk, hs, fun _ => by omega⟩
        · rcases h with ⟨x7, o⟩ | ⟨x7, o⟩
          · obtain ⟨u1, u2⟩ := oI o
            rw [u1]
            exact Or.inr ⟨u2, 7, _, Or.inr (Or.inr ⟨rfl, hsk, hs, Or.inr x5, by omega⟩), k2⟩
          · exact absurd (fail0 k2 rfl rfl) x7
      · omega
  · obtain ⟨u1, u2⟩ := oI o
    rw [u1, u2]
    refine Or.inr ⟨fail0 k2 rfl rfl, 2, _, Or.inl ⟨rfl, ?_⟩, k2⟩
    rcases l2 with ⟨a, _⟩ | ⟨_, b⟩
    · omega
    · exact b
/-- the reference's step, up to the row that it begins -/
theorem stp_ok {nn dp s : Nat} {o : cg × Option cv} (hS : TS c d m nn dp s np nq) (hk : c 88 7 ≠ 23) (h : zr sv L n 193 0 lf [] d o) (h0 : lf 0 = (4, 253)) : (SK (c 88 7) ∧ s < 30 ∧ (OP (c 88 7) → dp < 3) ∧ ∃ (w : Nat) (M : Nat) (d3 : cg) (lf1 : dlf) (op : Int), w < 25 ∧ c 88 7 = (w : Int) ∧ ((op = 1 ∧ OP (c 88 7)) ∨ (op = 0 ∧ ¬ OP (c 88 7))) ∧ lf1 0 = (4, 253) ∧ lf1 1 = (0, (km w : Int)) ∧ lf1 2 = (0, (nn : Int)) ∧ lf1 3 = (0, ((3236 + 8 * nn : Nat) : Int)) ∧ lf1 4 = (0, op) ∧ zr sv L M 193 176 lf1 [] d3 o ∧ (∀ k j : Nat, ¬ (k = 253 ∧ j = 23) → ¬ (k = 254 ∧ 3236 + 8 * nn ≤ j ∧ j < 3236 + 8 * nn + 8) → d3 k j = d k j) ∧ d3 253 23 = ((s + 1 : Nat) : Int) ∧ d3 254 (3236 + 8 * nn) = (km w : Int)) ∨ (∃ f x y, FK3 (c 88 7) dp s f ∧ zr sv L n 173 0 (darg 0 [(4, 253), (0, f)]) [] d (x, some (0, y)) ∧ o = (x, some (0, y))) := by
  obtain ⟨hE, hT, a3, a4, ⟨b1, b2, b3, b4, b5, b6⟩, ⟨w1, w2, w3⟩, a7⟩ := hS
  obtain ⟨e1, s2, q1, h⟩ := m_stp0 h h0
  obtain ⟨u1, u2⟩ := tq_key hE hT q1 rfl rfl
  rw [u1] at h
  have key : (¬ SK (c 88 7) ∧ (s2 < 14 ∨ 22 < s2 ∨ s2 = 15) ∧ s2 ≠ 21) ∨ (∃ w : Nat, w < 25 ∧ c 88 7 = (w : Int) ∧ s2 = (km w : Int) ∧ SK (c 88 7) ∧ 14 ≤ s2 ∧ s2 ≤ 22 ∧ s2 ≠ 15 ∧ s2 ≠ 21 ∧ ((s2 = 19 ∨ s2 = 20) ↔ OP (c 88 7))) := by
    rcases u2 with ⟨z1, z2⟩ | ⟨w, z1, z2, z3⟩
    · exact Or.inl ⟨by unfold SK; omega, by omega, by omega⟩
    · rcases kms w z1 with ⟨t1, t2, t3, t4, t5⟩ | ⟨t1, t2⟩ | ⟨t1, t2⟩
      · refine Or.inr ⟨w, z1, z2, z3, by unfold SK; omega, by omega, by omega, by omega, by omega, ?_⟩
        unfold OP
        rw [z3, z2]
        rcases t1 with e | e | e | e | e | e | e <;> subst e <;> decide
      · omega
      · exact Or.inl ⟨by unfold SK; omega, by omega, by omega⟩
  -- behind the three ways in
  have go : ∀ {ly : dlf} {op : Int}, ly 0 = (4, 253) → ly 1 = (0, s2) → ly 2 = (0, d 254 2983) → ly 3 = (0, w32 (3236 + (w32 (8 * (d 254 2983))))) → ly 4 = (0, op) → ((op = 1 ∧ (s2 = 19 ∨ s2 = 20)) ∨ (op = 0 ∧ s2 ≠ 19 ∧ s2 ≠ 20)) → zr sv L n 193 44 ly [] d o → (SK (c 88 7) ∧ s < 30 ∧ (OP (c 88 7) → dp < 3) ∧ ∃ (w : Nat) (M : Nat) (d3 : cg) (lf1 : dlf) (op : Int), w < 25 ∧ c 88 7 = (w : Int) ∧ ((op = 1 ∧ OP (c 88 7)) ∨ (op = 0 ∧ ¬ OP (c 88 7))) ∧ lf1 0 = (4, 253) ∧ lf1 1 = (0, (km w : Int)) ∧ lf1 2 = (0, (nn : Int)) ∧ lf1 3 = (0, ((3236 + 8 * nn : Nat) : Int)) ∧ lf1 4 = (0, op) ∧ zr sv L M 193 176 lf1 [] d3 o ∧ (∀ k j : Nat, ¬ (k = 253 ∧ j = 23) → ¬ (k = 254 ∧ 3236 + 8 * nn ≤ j ∧ j < 3236 + 8 * nn + 8) → d3 k j = d k j) ∧ d3 253 23 = ((s + 1 : Nat) : Int) ∧ d3 254 (3236 + 8 * nn) = (km w : Int)) ∨ (∃ f x y, FK3 (c 88 7) dp s f ∧ zr sv L n 173 0 (darg 0 [(4, 253), (0, f)]) [] d (x, some (0, y)) ∧ o = (x, some (0, y))) := by
    intro ly op v0 v1 v2 v3 v4 hop hx
    rw [b2] at v2 v3
    rw [show w32 (8 * (nn : Int)) = ((8 * nn : Nat) : Int) by rw [w32_id (by omega) (by omega)]; omega, show w32 (3236 + ((8 * nn : Nat) : Int)) = ((3236 + 8 * nn : Nat) : Int) by rw [w32_id (by omega) (by omega)]; omega] at v3
    have hx := m_stp44 hx v0 v1 v2 v3 v4
    have nsk : ∀ {x : cg} {y : Int}, ¬ SK (c 88 7) → zr sv L n 173 0 (darg 0 [(4, 253), (0, 2)]) [] d (x, some (0, y)) → o = (x, some (0, y)) → ∃ f x y, FK3 (c 88 7) dp s f ∧ zr sv L n 173 0 (darg 0 [(4, 253), (0, f)]) [] d (x, some (0, y)) ∧ o = (x, some (0, y)) := fun hn k e => ⟨2, _, _, Or.inl ⟨rfl, hn⟩, k, e⟩
    have nk : (s2 < 14 ∨ 22 < s2 ∨ s2 = 15) → ¬ SK (c 88 7) := fun e => by
      rcases key with ⟨z, _⟩ | ⟨w, z1, z2, z3, z4, z5, z6, z7, z8, z9⟩
      · exact z
      · omega
    rcases hx with ⟨x1, g2, r3, k2, e⟩ | ⟨x1, ⟨x2, g5, r6, k2, e⟩ | ⟨x2, ⟨x3, g8, r9, k2, e⟩ | ⟨x3, ⟨x4, hx⟩ | ⟨x4, hx⟩⟩⟩⟩
    · exact Or.inr (nsk (nk (Or.inl x1)) k2 e)
    · exact Or.inr (nsk (nk (Or.inr (Or.inl x2))) k2 e)
    · exact Or.inr (nsk (nk (Or.inr (Or.inr x3))) k2 e)
    · rcases key with ⟨z1, z2, z3⟩ | ⟨w, z1, z2, z3, z4, z5, z6, z7, z8, z9⟩
      · omega
      · have fin : ∀ {lz : dlf}, s < 30 → (OP (c 88 7) → dp < 3) → lz 0 = (4, 253) → lz 1 = (0, s2) → lz 2 = (0, (nn : Int)) → lz 3 = (0, ((3236 + 8 * nn : Nat) : Int)) → lz 4 = (0, op) → lz 5 = (0, 1) → zr sv L n 193 153 lz [] (cup (cup d 253 23 (w32 ((d 253 23) + 1))) 254 ((((3236 + 8 * nn : Nat) : Int)).toNat) s2) o → (SK (c 88 7) ∧ s < 30 ∧ (OP (c 88 7) → dp < 3) ∧ ∃ (w : Nat) (M : Nat) (d3 : cg) (lf1 : dlf) (op : Int), w < 25 ∧ c 88 7 = (w : Int) ∧ ((op = 1 ∧ OP (c 88 7)) ∨ (op = 0 ∧ ¬ OP (c 88 7))) ∧ lf1 0 = (4, 253) ∧ lf1 1 = (0, (km w : Int)) ∧ lf1 2 = (0, (nn : Int)) ∧ lf1 3 = (0, ((3236 + 8 * nn : Nat) : Int)) ∧ lf1 4 = (0, op) ∧ zr sv L M 193 176 lf1 [] d3 o ∧ (∀ k j : Nat, ¬ (k = 253 ∧ j = 23) → ¬ (k = 254 ∧ 3236 + 8 * nn ≤ j ∧ j < 3236 + 8 * nn + 8) → d3 k j = d k j) ∧ d3 253 23 = ((s + 1 : Nat) : Int) ∧ d3 254 (3236 + 8 * nn) = (km w : Int)) := by
          intro lz hs hd j0 j1 j2 j3 j4 j5 hz
          rw [show (((3236 + 8 * nn : Nat) : Int)).toNat = 3236 + 8 * nn from rfl, b6, show w32 ((s : Int) + 1) = ((s + 1 : Nat) : Int) by rw [w32_id (by omega) (by omega)]; rfl] at hz
          obtain ⟨M, g1, lf1, y0, y1, y2, y3, y4, y5, y6⟩ := zer_l (R := 3236 + 8 * nn) (by omega) n (e := 1) j0 j1 j2 j3 j4 j5 (by omega) (by omega) hz
          refine ⟨z4, hs, hd, w, M, g1, lf1, op, z1, z2, ?_, y0, by rw [y1, z3], y2, y3, y4, y5, fun k j n1 n2 => ?_, ?_, ?_⟩
          · rcases hop with ⟨p1, p2⟩ | ⟨p1, p2, p3⟩
            · exact Or.inl ⟨p1, z9.mp p2⟩
            · exact Or.inr ⟨p1, fun e => by have := z9.mpr e; omega⟩
          · rw [y6 k j (fun e => n2 ⟨e.1, by omega, by omega⟩), cup_ne (fun e => n2 ⟨e.1, by omega, by omega⟩), cup_ne n1]
          · rw [y6 253 23 (by omega), cup_ne (by omega), cup_at]
          · rw [y6 254 (3236 + 8 * nn) (by omega), cup_at, z3]
        rcases hx with ⟨x5, ⟨x6, lz, j0, j1, j2, j3, j4, j5, hz⟩ | ⟨x6, ⟨x7, lz, j0, j1, j2, j3, j4, j5, hz⟩ | ⟨x7, g19, r20, k2, e⟩⟩⟩ | ⟨x5, g21, r22, k2, e⟩
        · exact Or.inl (fin (by omega) (fun e => by have := z9.mpr e; omega) j0 j1 j2 j3 j4 j5 hz)
        · exact Or.inl (fin (by omega) (fun _ => by omega) j0 j1 j2 j3 j4 j5 hz)
        · exact Or.inr ⟨7, _, _, Or.inr (Or.inr ⟨rfl, z4, by omega, z9.mp (by omega), by omega⟩), k2, e⟩
        · exact Or.inr ⟨6, _, _, Or.inr (Or.inl ⟨rfl, z4, by omega⟩), k2, e⟩
    · rcases key with ⟨z1, z2, z3⟩ | ⟨w, z1, z2, z3, z4, z5, z6, z7, z8, z9⟩ <;> omega
  rcases h with ⟨y1, ly, v0, v1, v2, v3, v4, hx⟩ | ⟨y1, ⟨y2, ly, v0, v1, v2, v3, v4, hx⟩ | ⟨y2, ly, v0, v1, v2, v3, v4, hx⟩⟩
  · exact go v0 v1 v2 v3 v4 (Or.inl ⟨rfl, by omega⟩) hx
  · exact go v0 v1 v2 v3 v4 (Or.inr ⟨rfl, y1, y2⟩) hx
  · exact go v0 v1 v2 v3 v4 (Or.inl ⟨rfl, by omega⟩) hx
/-- what a step leaves as it was, and its row -/
def STI (c d c' d' : cg) (np nq nn dp n2 dp2 : Nat) : Prop := n2 = nn + 1 ∧ (∀ k j : Nat, 51 ≤ k → k ≤ 58 → j ≠ nn → c' k j = c k j) ∧ (∀ j : Nat, 3236 ≤ j → ¬ (3236 + 8 * nn ≤ j ∧ j < 3236 + 8 * nn + 8) → d' 254 j = d 254 j) ∧ (∀ k : Nat, k < dp → c' 91 k = c 91 k) ∧ VRW c' d' np nq nn (3236 + 8 * nn) ∧ ((dp2 = dp ∧ ¬ (4 ≤ c' 51 nn ∧ c' 51 nn ≤ 7)) ∨ (dp2 = dp + 1 ∧ dp ≤ 2 ∧ (4 ≤ c' 51 nn ∧ c' 51 nn ≤ 7) ∧ c' 91 dp = (nn : Int) ∧ c' 58 nn = (dp : Int)))
/-- what an END leaves as it was, and its row -/
def ETI (c d c' d' : cg) (nn dp n2 dp2 : Nat) : Prop := n2 = nn + 1 ∧ ∃ q o : Nat, dp = q + 1 ∧ dp2 = q ∧ o < nn ∧ c 91 q = (o : Int) ∧ (∀ k j : Nat, 51 ≤ k → k ≤ 58 → j ≠ nn → ¬ (k = 57 ∧ j = o) → c' k j = c k j) ∧ (∀ k : Nat, k < dp → c' 91 k = c 91 k) ∧ (c' 57 nn = (o : Int) ∧ c' 57 o = (nn : Int) ∧ c' 58 nn = (q : Int)) ∧ ((c 51 o = 7 ∧ c' 51 nn = 10) ∨ (c 51 o ≠ 7 ∧ c' 51 nn = 9)) ∧ (∀ j : Nat, 3236 ≤ j → ¬ (3236 + 8 * nn ≤ j ∧ j < 3236 + 8 * nn + 8) → j ≠ 3241 + 8 * o → d' 254 j = d 254 j) ∧ d' 254 (3236 + 8 * nn) = 21 ∧ d' 254 (3241 + 8 * nn) = (o : Int) ∧ d' 254 (3241 + 8 * o) = (nn : Int)
theorem step_pr {nn dp s : Nat} (hS : TS c d m nn dp s np nq) (hk : c 88 7 ≠ 23) (h : zr sv L n 67 0 lf [] c (c', some (0, r))) (h0 : lf 0 = (4, 90)) (h' : zr sv L n' 193 0 lf' [] d (d', some (0, r'))) (h0' : lf' 0 = (4, 253)) : (r = 1 ∧ r' = 1 ∧ (∃ n2 dp2 s2, TS c' d' m n2 dp2 s2 np nq ∧ STI c d c' d' np nq nn dp n2 dp2) ∧ c 88 5 < c' 88 5) ∨ (r = 0 ∧ r' = 0 ∧ FLT c' d') := by
  have hS0 := hS
  obtain ⟨hE, hT, a3, a4, ⟨b1, b2, b3, b4, b5, b6⟩, ⟨w1, w2, w3⟩, a7⟩ := hS0
  obtain ⟨g1, r2, k1, h⟩ := t_step h h0
  have hm := may_ok (np0 := nn) b3 b5 b1 (by omega) k1 rfl rfl
  have hq := stp_ok hS hk h' h0'
  rcases hm with ⟨x1, x2, hsk, hs, hop⟩ | ⟨x1, f, y, hf, k2⟩
  · rcases hq with ⟨-, -, -, w, M, d3, lf1, op, z1, z2, z3, y0, y1, y2, y3, y4, hx, D1, D2, D3⟩ | ⟨f, x, y, hf, q2, e⟩
    · rcases h with ⟨-, g4, r5, k3, g6, k4, h⟩ | ⟨x3, -⟩
      · rw [x2] at k3
        have hnn : nn < 60 := by omega
        have nr : r5 = (nn : Int) ∧ ((OP (c 88 7) ∧ g4 = c4o c nn dp s) ∨ (¬ OP (c 88 7) ∧ g4 = c4n c nn s)) := by
          have ww : w32 ((nn : Int) + 1) = ((nn + 1 : Nat) : Int) := by rw [w32_id (by omega) (by omega)]; rfl
          have ws : w32 ((s : Int) + 1) = ((s + 1 : Nat) : Int) := by rw [w32_id (by omega) (by omega)]; rfl
          have wd : w32 ((dp : Int) + 1) = ((dp + 1 : Nat) : Int) := by rw [w32_id (by omega) (by omega)]; rfl
          have hr := t_newRow k3 rfl rfl
          rw [b1, b3, b5, ww, ws, wd, show ((nn : Int)).toNat = nn from rfl, show ((dp : Int)).toNat = dp from rfl] at hr
          rcases hr with ⟨p1, o⟩ | ⟨p1, ⟨p2, o⟩ | ⟨p2, o⟩⟩ <;> obtain ⟨l1, l2⟩ := oI o
          · exact ⟨l2, Or.inl ⟨Or.inl p1, l1⟩⟩
          · exact ⟨l2, Or.inr ⟨fun e => by unfold OP at e; omega, l1⟩⟩
          · exact ⟨l2, Or.inl ⟨Or.inr p2, l1⟩⟩
        obtain ⟨e5, nr⟩ := nr
        rw [e5, show ((nn : Int)).toNat = nn from rfl] at h
        obtain ⟨e1, q1, e2, s3, q2, hx⟩ := m_stp176 hx y0 y1 y2 y3 y4
        rw [D1 254 2983 (by omega) (by omega), b2, show w32 ((nn : Int) + 1) = ((nn + 1 : Nat) : Int) by rw [w32_id (by omega) (by omega)]; rfl] at q1
        have hB : BEG nn s d (cup d3 254 2983 ((nn + 1 : Nat) : Int)) := ⟨fun k j n1 n2 n3 => by rw [cup_ne n3]; exact D1 k j n1 n2, by rw [cup_ne (by omega)]; exact D2, by rw [cup_at]⟩
        have D4 : cup d3 254 2983 ((nn + 1 : Nat) : Int) 254 (3236 + 8 * nn) = (km w : Int) := by rw [cup_ne (by omega)]; exact D3
        generalize cup d3 254 2983 ((nn + 1 : Nat) : Int) = d4 at q1 hB D4
        have G : ∀ k : Nat, k ≠ 50 → k ≠ 58 → k ≠ 90 → k ≠ 91 → g4 k = c k := fun k i1 i2 i3 i4 => by
          rcases nr with ⟨-, e⟩ | ⟨-, e⟩ <;> rw [e]
          · unfold c4o; rw [cup_row _ _ _ i1, cup_row _ _ _ i1, cup_row _ _ _ i3, cup_row _ _ _ i4, cup_row _ _ _ i2]
          · unfold c4n; rw [cup_row _ _ _ i1, cup_row _ _ _ i1]
        have E4 : TE g4 d4 m := hE.gen (G 88 (by decide) (by decide) (by decide) (by decide)) (G 2 (by decide) (by decide) (by decide) (by decide)) (G 89 (by decide) (by decide) (by decide) (by decide)) (hB.1 253 11 (by omega) (by omega) (by omega)) (funext fun j => hB.1 260 j (by omega) (by omega) (by omega)) (hB.1 253 17 (by omega) (by omega) (by omega))
        have T4 : TQ g4 d4 m := hT.gen (G 88 (by decide) (by decide) (by decide) (by decide)) (fun j j1 j2 => hB.1 253 j (by omega) (by omega) (by omega)) (funext fun j => hB.1 260 j (by omega) (by omega) (by omega))
        have K4 : g4 88 4 = 1 := by
          rw [G 88 (by decide) (by decide) (by decide) (by decide)]
          exact tq_kk hT (by omega)
        have S0 : SU g4 d4 g6 e1 m := adv_su (c0 := c) E4 T4 (Or.inl K4) k4 rfl q1 rfl
        have hcode : e1 254 (3236 + 8 * nn) = (km w : Int) := by rw [S0.2.1 254 _ (by omega)]; exact D4
        have lt : c 88 5 < g6 88 5 := by
          have := (adv_lt E4 T4 (Or.inl K4) k4 rfl).2
          rw [G 88 (by decide) (by decide) (by decide) (by decide)] at this
          exact this
        have W6 : WN g6 e1 np nq := a4.fr (fun k hk => by rw [S0.1.1.row (by omega), G k (by omega) (by omega) (by omega) (by omega)]) (by rw [S0.2.1.row (by decide), hB.1 254 0 (by omega) (by omega) (by omega)]) (by rw [S0.2.1.row (by decide), hB.1 254 1 (by omega) (by omega) (by omega)]) (by rw [S0.2.1.row (by decide)]; exact funext fun j => hB.1 255 j (by omega) (by omega) (by omega))
        have f6 : e1 253 18 = 0 := S0.f0 (by rw [hB.1 253 18 (by omega) (by omega) (by omega)]; exact a3)
        have k21 : (km w : Int) ≠ 21 := by
          rcases kms w z1 with ⟨t1, t2, t3, t4, t5⟩ | ⟨t1, t2⟩ | ⟨t1, t2⟩
          · omega
          · omega
          · exact absurd hsk (by unfold SK; omega)
        have done : ∀ {cx dx gx g8 : cg} {r8 : Int}, ROW nn (3236 + 8 * nn) g6 e1 cx dx → VRW cx dx np nq nn (3236 + 8 * nn) → (OP (c 88 7) ↔ 4 ≤ cx 51 nn ∧ cx 51 nn ≤ 7) → SU cx dx gx e2 m → s3 ≠ 0 → zr sv L n 42 0 (darg 0 [(4, 88)]) [] gx (g8, some (0, r8)) → c' = g8 → ((r8 = 0 ∧ r = 0) ∨ (r8 ≠ 0 ∧ r = 1) ∨ r = r8) → (r = 1 ∧ r' = 1 ∧ (∃ n2 dp2 s2, TS c' d' m n2 dp2 s2 np nq ∧ STI c d c' d' np nq nn dp n2 dp2) ∧ c 88 5 < c' 88 5) ∨ (r = 0 ∧ r' = 0 ∧ FLT c' d') := by
          intro cx dx gx g8 r8 hrow hvr hopk hsu hs3 kz ec hr
          have FR := FRM.of S0 hrow hsu
          have RV : ∀ {cz dz : cg}, (∀ k j : Nat, k ≠ 88 → cz k j = gx k j) → (∀ j : Nat, dz 254 j = e2 254 j) → VRW cz dz np nq nn (3236 + 8 * nn) := fun h1 h2 => hvr.mvz (fun k k1 k2 => by rw [h1 k nn (by omega), hsu.1.1.row (by omega)]) (fun j _ _ _ => by rw [h2 j, hsu.2.1 254 j (by omega)])
          have RK : ∀ {cz : cg}, (∀ k j : Nat, k ≠ 88 → cz k j = gx k j) → cz 51 nn = cx 51 nn := fun h1 => by rw [h1 51 nn (by decide), hsu.1.1.row (by decide)]
          have RD : ∀ {dz : cg}, (∀ j : Nat, dz 254 j = e2 254 j) → ∀ j : Nat, 3236 ≤ j → ¬ (3236 + 8 * nn ≤ j ∧ j < 3236 + 8 * nn + 8) → dz 254 j = d 254 j := fun h2 j j1 j2 => by rw [h2 j, FR.2.1 254 j (by omega) (by omega), hB.1 254 j (by omega) (by omega) (by omega)]
          have hlt : c 88 5 < gx 88 5 := by
            have a := hsu.1.2
            rw [hrow.1 88 5 (by omega)] at a
            omega
          rcases hx with ⟨x5, hx⟩ | ⟨x5, -⟩
          · rcases z3 with ⟨o1, hop1⟩ | ⟨o1, hop1⟩
            · rcases hx with ⟨o2, -⟩ | ⟨o2, ⟨o3, d7, s8, q3, e'⟩ | ⟨o3, -⟩⟩
              · omega
              · rcases nr with ⟨-, g4e⟩ | ⟨j1, -⟩
                · rw [g4e] at FR
                  have T := fin_o hS hs (hop hop1) hB FR hsu.2.2.1 hsu.2.2.2
                  have e22 : e2 253 22 = (dp : Int) := by rw [FR.2.1 253 22 (by omega) (by omega), hB.1 253 22 (by omega) (by omega) (by omega)]; exact b4
                  rw [e22, show ((dp : Int)).toNat = dp from rfl, show w32 ((dp : Int) + 1) = ((dp + 1 : Nat) : Int) by rw [w32_id (by omega) (by omega)]; rfl] at q3
                  obtain ⟨l3, l4⟩ := oI e'
                  rcases stop_pr T.1 T.2.1 T.2.2.1 kz rfl q3 rfl rfl with ⟨t1, t2, t3⟩ | ⟨t1, t2, t3⟩
                  · have hz1 : ∀ k j : Nat, k ≠ 88 → c' k j = gx k j := fun k j hk => by rw [ec, t3.1.1.row hk]
                    have hz2 : ∀ j : Nat, d' 254 j = e2 254 j := fun j => by rw [l3, t3.2.1 254 j (by omega), cup_ne (by omega), cup_ne (by omega)]
                    have hk1 := hopk.mp hop1
                    refine Or.inl ⟨by omega, by omega, ⟨nn + 1, dp + 1, s + 1, by rw [ec, l3]; exact T.su t3, rfl, fun k j k1 k2 k3 => ?_, RD hz2, fun k hk => ?_, RV hz1 hz2, Or.inr ⟨rfl, by have := hop hop1; omega, by rw [RK hz1]; exact hk1, ?_, ?_⟩⟩, by have := t3.1.2; rw [ec]; omega⟩
                    · rw [hz1 k j (by omega), FR.1 k j (by omega) (by omega)]; unfold c4o; rw [cup_ne (by omega), cup_ne (by omega), cup_ne (by omega), cup_ne (by omega), cup_ne (by omega)]
                    · rw [hz1 91 k (by omega), FR.1 91 k (by omega) (by omega)]; unfold c4o; rw [cup_ne (by omega), cup_ne (by omega), cup_ne (by omega), cup_ne (by omega), cup_ne (by omega)]
                    · rw [hz1 91 dp (by omega), FR.1 91 dp (by omega) (by omega)]; unfold c4o; rw [cup_ne (by omega), cup_ne (by omega), cup_ne (by omega), cup_at]
                    · rw [hz1 58 nn (by omega), FR.1 58 nn (by omega) (by omega)]; unfold c4o; rw [cup_ne (by omega), cup_ne (by omega), cup_ne (by omega), cup_ne (by omega), cup_at]
                  · exact Or.inr ⟨by omega, by omega, by rw [ec, l3]; exact t3⟩
                · exact absurd hop1 j1
              · exact absurd o3 k21
            · rcases hx with ⟨o2, ⟨o3, d7, s8, q3, e'⟩ | ⟨o3, -⟩⟩ | ⟨o2, -⟩
              · rcases nr with ⟨j1, -⟩ | ⟨-, g4e⟩
                · exact absurd j1 hop1
                · rw [g4e] at FR
                  have T := fin_n hS hs hB FR hsu.2.2.1 hsu.2.2.2
                  obtain ⟨l3, l4⟩ := oI e'
                  rcases stop_pr T.1 T.2.1 T.2.2.1 kz rfl q3 rfl rfl with ⟨t1, t2, t3⟩ | ⟨t1, t2, t3⟩
                  · have hz1 : ∀ k j : Nat, k ≠ 88 → c' k j = gx k j := fun k j hk => by rw [ec, t3.1.1.row hk]
                    have hz2 : ∀ j : Nat, d' 254 j = e2 254 j := fun j => by rw [l3, t3.2.1 254 j (by omega)]
                    refine Or.inl ⟨by omega, by omega, ⟨nn + 1, dp, s + 1, by rw [ec, l3]; exact T.su t3, rfl, fun k j k1 k2 k3 => ?_, RD hz2, fun k hk => ?_, RV hz1 hz2, Or.inl ⟨rfl, by rw [RK hz1]; exact fun q => hop1 (hopk.mpr q)⟩⟩, by have := t3.1.2; rw [ec]; omega⟩
                    · rw [hz1 k j (by omega), FR.1 k j (by omega) (by omega)]; unfold c4n; rw [cup_ne (by omega), cup_ne (by omega)]
                    · rw [hz1 91 k (by omega), FR.1 91 k (by omega) (by omega)]; unfold c4n; rw [cup_ne (by omega), cup_ne (by omega)]
                  · exact Or.inr ⟨by omega, by omega, by rw [ec, l3]; exact t3⟩
              · exact absurd o3 k21
              · omega
          · exact absurd x5 hs3
        have bad : FLT c' e2 → r = 0 → s3 = 0 → (r = 1 ∧ r' = 1 ∧ (∃ n2 dp2 s2, TS c' d' m n2 dp2 s2 np nq ∧ STI c d c' d' np nq nn dp n2 dp2) ∧ c 88 5 < c' 88 5) ∨ (r = 0 ∧ r' = 0 ∧ FLT c' d') := by
          intro hfl hr0 hs0
          rcases hx with ⟨x5, -⟩ | ⟨x5, e'⟩
          · exact absurd hs0 x5
          · obtain ⟨l3, l4⟩ := oI e'
            exact Or.inr ⟨hr0, l4, by rw [l3]; exact hfl⟩
        have hR1 : w32 (((3236 + 8 * nn : Nat) : Int) + 1) = ((3236 + 8 * nn + 1 : Nat) : Int) := by rw [w32_id (by omega) (by omega)]; rfl
        have hR2 : w32 (((3236 + 8 * nn : Nat) : Int) + 2) = ((3236 + 8 * nn + 2 : Nat) : Int) := by rw [w32_id (by omega) (by omega)]; rfl
        -- the kind that the class notes
        have SK6 : ∀ x : Int, SU (cup g6 51 nn x) e1 (cup g6 51 nn x) e1 m := fun x => ⟨⟨fun _ _ _ => rfl, Int.le_refl _⟩, fun _ _ _ => rfl, S0.2.2.1.up (cup_row _ _ _ (by decide)) (cup_row _ _ _ (by decide)) (cup_row _ _ _ (by decide)) rfl rfl, S0.2.2.2.up (cup_row _ _ _ (by decide)) rfl rfl⟩
        have R6 : ∀ x : Int, ROW nn (3236 + 8 * nn) g6 e1 (cup g6 51 nn x) e1 := fun x => (ROW.rf _ _ _ _).cc (k := 51) (by decide) (by decide) x
        have W7 : ∀ {x : Int} {cx dx gx ex : cg}, ROW nn (3236 + 8 * nn) g6 e1 cx dx → SU cx dx gx ex m → WN gx ex np nq := fun hrow hsu => W6.fr (fun k hk => by rw [hsu.1.1.row (by omega)]; exact funext fun j => hrow.1 k j (by omega)) (by rw [hsu.2.1.row (by decide), hrow.2 254 0 (by omega)]) (by rw [hsu.2.1.row (by decide), hrow.2 254 1 (by omega)]) (by rw [hsu.2.1.row (by decide)]; exact funext fun j => hrow.2 255 j (by omega))
        have f7 : ∀ {cx dx gx ex : cg}, ROW nn (3236 + 8 * nn) g6 e1 cx dx → SU cx dx gx ex m → ex 253 18 = 0 := fun hrow hsu => hsu.f0 (by rw [hrow.2 253 18 (by omega)]; exact f6)
        unfold SK at hsk
        rcases h with ⟨K, h⟩ | ⟨K, -⟩ | ⟨K, h⟩ | ⟨K, h⟩ | ⟨K, h⟩ | ⟨K, h⟩ | ⟨K, -⟩ | ⟨K, -⟩ | ⟨K, h⟩ | ⟨K, h⟩
        · -- swear
          have hw : w = 14 := by omega
          subst hw
          rw [show km 14 = 14 from rfl] at q2
          rcases m_ord q2 rfl rfl rfl with ⟨v, A⟩ | ⟨v, A⟩ | ⟨v, A⟩ | ⟨v, A⟩ | ⟨v, A⟩ | ⟨v, A⟩ | ⟨v, A⟩ | ⟨v, A⟩
          all_goals first | (exfalso; omega) | skip
          obtain ⟨e3, s4, q3, A⟩ := A
          rw [hR1] at q3
          obtain ⟨g7, r8, k5, h⟩ := h
          rcases wit_pr hnn (by omega) (W7 (x := 0) (R6 0) (SK6 0)) (SK6 0).2.2.1 (SK6 0).2.2.2 f6 k5 rfl rfl q3 rfl rfl with ⟨v1, v2, p, v3, v4⟩ | ⟨v1, v2, v3⟩
          · have R7 := ((R6 0).cc (k := 52) (by decide) (by decide) (p : Int)).cd (j := 3236 + 8 * nn + 1) (by omega) (by omega) (p : Int)
            rcases h with ⟨x3, -⟩ | ⟨x3, g10, r11, k6, h⟩
            · omega
            · rcases A with ⟨x4, -⟩ | ⟨x4, e6, s7, q4, A⟩
              · omega
              · rcases pass_pr (i := 15) (by omega) v4.2.2.1 v4.2.2.2 (f7 R7 v4) k6 rfl rfl q4 rfl rfl rfl with ⟨t1, t2, t3⟩ | ⟨t1, t2, t3⟩
                · have S8 := v4.tr t3
                  rcases h with ⟨x5, -⟩ | ⟨x5, g13, r14, k7, h⟩
                  · omega
                  · rcases A with ⟨x6, -⟩ | ⟨x6, e9, s10, q5, A⟩
                    · omega
                    · rcases whr_pr hnn (by omega) (by omega) (W7 (x := 0) R7 S8) S8.2.2.1 S8.2.2.2 (f7 R7 S8) k7 rfl rfl q5 rfl rfl with ⟨u1, u2, p2, q, t, u3, u4, u5, u6⟩ | ⟨u1, u2, u3⟩
                      · rcases h with ⟨x7, -⟩ | ⟨x7, g16, r17, k8, h⟩
                        · omega
                        · rcases A with ⟨x8, -⟩ | ⟨x8, A⟩
                          · omega
                          · obtain ⟨l1, l2⟩ := oI A
                            refine done ((((((R7.cc (k := 53) (by decide) (by decide) (p2 : Int)).cc (k := 54) (by decide) (by decide) (q : Int)).cc (k := 55) (by decide) (by decide) (t : Int)).cd (j := 3236 + 8 * nn + 2) (by omega) (by omega) (p2 : Int)).cd (j := 3236 + 8 * nn + 3) (by omega) (by omega) (q : Int)).cd (j := 3236 + 8 * nn + 4) (by omega) (by omega) (t : Int)) ⟨0, by decide, by rw [cup_ne (by omega), cup_ne (by omega), cup_ne (by omega), cup_ne (by omega), cup_at]; rfl, by rw [cup_ne (by omega), cup_ne (by omega), cup_ne (by omega), cup_ne (by omega), hcode]; rfl, fun _ => ⟨p, v3, by rw [cup_ne (by omega), cup_ne (by omega), cup_ne (by omega), cup_at], by rw [cup_ne (by omega), cup_ne (by omega), cup_ne (by omega), cup_at]⟩, fun q => absurd q (by decide), fun _ => ⟨p2, u3, by rw [cup_ne (by omega), cup_ne (by omega), cup_at], by rw [cup_ne (by omega), cup_ne (by omega), cup_at]⟩, fun _ => ⟨q, t, u4, u5, by rw [cup_ne (by omega), cup_at], by rw [cup_ne (by omega), cup_at], by rw [cup_at], by rw [cup_at]⟩, fun q => absurd q (by decide), fun q => absurd q (by decide)⟩ (by unfold OP; rw [cup_ne (by omega), cup_ne (by omega), cup_ne (by omega), cup_ne (by omega), cup_at]; omega) (by rw [l1]; exact ((((((S8.cupd (k := 254) (by decide) (by decide) _ _).cupd (k := 254) (by decide) (by decide) _ _).cupd (k := 254) (by decide) (by decide) _ _).cupc (k := 53) (by decide) (by decide) (by decide) _ _).cupc (k := 54) (by decide) (by decide) (by decide) _ _).cupc (k := 55) (by decide) (by decide) (by decide) _ _).tr u6) (by omega) k8 (r8 := r17) ?_ ?_
                            · rcases h with ⟨_, o⟩ | ⟨_, o⟩ <;> exact (oI o).1
                            · rcases h with ⟨j1, o⟩ | ⟨j1, o⟩
                              · exact Or.inl ⟨j1, (oI o).2⟩
                              · exact Or.inr (Or.inl ⟨j1, (oI o).2⟩)
                      · rcases h with ⟨x7, o⟩ | ⟨x7, -⟩
                        · rcases A with ⟨x8, A⟩ | ⟨x8, -⟩
                          · obtain ⟨l1, l2⟩ := oI A
                            obtain ⟨l3, l4⟩ := oI o
                            exact bad (by rw [l1, l3]; exact u3) l4 l2
                          · omega
                        · omega
                · rcases h with ⟨x5, o⟩ | ⟨x5, -⟩
                  · rcases A with ⟨x6, A⟩ | ⟨x6, -⟩
                    · obtain ⟨l1, l2⟩ := oI A
                      obtain ⟨l3, l4⟩ := oI o
                      exact bad (by rw [l1, l3]; exact t3) l4 l2
                    · omega
                  · omega
          · rcases h with ⟨x3, o⟩ | ⟨x3, -⟩
            · rcases A with ⟨x4, A⟩ | ⟨x4, -⟩
              · obtain ⟨l1, l2⟩ := oI A
                obtain ⟨l3, l4⟩ := oI o
                exact bad (by rw [l1, l3]; exact v3) l4 l2
              · omega
            · omega
        · omega
        · -- find
          have hw : w = 16 := by omega
          subst hw
          rw [show km 16 = 16 from rfl] at q2
          rcases m_ord q2 rfl rfl rfl with ⟨v, A⟩ | ⟨v, A⟩ | ⟨v, A⟩ | ⟨v, A⟩ | ⟨v, A⟩ | ⟨v, A⟩ | ⟨v, A⟩ | ⟨v, A⟩
          all_goals first | (exfalso; omega) | skip
          obtain ⟨e3, s4, q3, A⟩ := A
          obtain ⟨l1, l2⟩ := oI A
          obtain ⟨g7, r8, k5, h⟩ := h
          rcases whr_pr hnn (by omega) (by omega) (W7 (x := 2) (R6 2) (SK6 2)) (SK6 2).2.2.1 (SK6 2).2.2.2 f6 k5 rfl rfl q3 rfl rfl with ⟨u1, u2, p2, q, t, u3, u4, u5, u6⟩ | ⟨u1, u2, u3⟩
          · rcases h with ⟨x7, -⟩ | ⟨x7, g16, r17, k8, h⟩
            · omega
            · refine done (((((((R6 2).cc (k := 53) (by decide) (by decide) (p2 : Int)).cc (k := 54) (by decide) (by decide) (q : Int)).cc (k := 55) (by decide) (by decide) (t : Int)).cd (j := 3236 + 8 * nn + 2) (by omega) (by omega) (p2 : Int)).cd (j := 3236 + 8 * nn + 3) (by omega) (by omega) (q : Int)).cd (j := 3236 + 8 * nn + 4) (by omega) (by omega) (t : Int)) ⟨2, by decide, by rw [cup_ne (by omega), cup_ne (by omega), cup_ne (by omega), cup_at]; rfl, by rw [cup_ne (by omega), cup_ne (by omega), cup_ne (by omega), hcode]; rfl, fun q => absurd q (by decide), fun q => absurd q (by decide), fun _ => ⟨p2, u3, by rw [cup_ne (by omega), cup_ne (by omega), cup_at], by rw [cup_ne (by omega), cup_ne (by omega), cup_at]⟩, fun _ => ⟨q, t, u4, u5, by rw [cup_ne (by omega), cup_at], by rw [cup_ne (by omega), cup_at], by rw [cup_at], by rw [cup_at]⟩, fun q => absurd q (by decide), fun q => absurd q (by decide)⟩ (by unfold OP; rw [cup_ne (by omega), cup_ne (by omega), cup_ne (by omega), cup_at]; omega) (by rw [l1]; exact u6) (by omega) k8 (r8 := r17) ?_ ?_
              · rcases h with ⟨_, o⟩ | ⟨_, o⟩ <;> exact (oI o).1
              · rcases h with ⟨j1, o⟩ | ⟨j1, o⟩
                · exact Or.inl ⟨j1, (oI o).2⟩
                · exact Or.inr (Or.inl ⟨j1, (oI o).2⟩)
          · rcases h with ⟨x7, o⟩ | ⟨x7, -⟩
            · obtain ⟨l3, l4⟩ := oI o
              exact bad (by rw [l1, l3]; exact u3) l4 (by omega)
            · omega
        · -- recant
          have hw : w = 17 := by omega
          subst hw
          rw [show km 17 = 17 from rfl] at q2
          rcases m_ord q2 rfl rfl rfl with ⟨v, A⟩ | ⟨v, A⟩ | ⟨v, A⟩ | ⟨v, A⟩ | ⟨v, A⟩ | ⟨v, A⟩ | ⟨v, A⟩ | ⟨v, A⟩
          all_goals first | (exfalso; omega) | skip
          obtain ⟨e3, s4, q3, A⟩ := A
          obtain ⟨l1, l2⟩ := oI A
          rw [hR1] at q3
          obtain ⟨g7, r8, k5, h⟩ := h
          rcases wit_pr hnn (by omega) (W7 (x := 3) (R6 3) (SK6 3)) (SK6 3).2.2.1 (SK6 3).2.2.2 f6 k5 rfl rfl q3 rfl rfl with ⟨v1, v2, p, v3, v4⟩ | ⟨v1, v2, v3⟩
          · rcases h with ⟨x7, -⟩ | ⟨x7, g16, r17, k8, h⟩
            · omega
            · refine done (((R6 3).cc (k := 52) (by decide) (by decide) (p : Int)).cd (j := 3236 + 8 * nn + 1) (by omega) (by omega) (p : Int)) ⟨3, by decide, by rw [cup_ne (by omega), cup_at]; rfl, by rw [cup_ne (by omega), hcode]; rfl, fun _ => ⟨p, v3, by rw [cup_at], by rw [cup_at]⟩, fun q => absurd q (by decide), fun q => absurd q (by decide), fun q => absurd q (by decide), fun q => absurd q (by decide), fun q => absurd q (by decide)⟩ (by unfold OP; rw [cup_ne (by omega), cup_at]; omega) (by rw [l1]; exact v4) (by omega) k8 (r8 := r17) ?_ ?_
              · rcases h with ⟨_, o⟩ | ⟨_, o⟩ <;> exact (oI o).1
              · rcases h with ⟨j1, o⟩ | ⟨j1, o⟩
                · exact Or.inl ⟨j1, (oI o).2⟩
                · exact Or.inr (Or.inl ⟨j1, (oI o).2⟩)
          · rcases h with ⟨x7, o⟩ | ⟨x7, -⟩
            · obtain ⟨l3, l4⟩ := oI o
              exact bad (by rw [l1, l3]; exact v3) l4 (by omega)
            · omega
        · -- any
          have hw : w = 18 := by omega
          subst hw
          rw [show km 18 = 18 from rfl] at q2
          rcases m_ord q2 rfl rfl rfl with ⟨v, A⟩ | ⟨v, A⟩ | ⟨v, A⟩ | ⟨v, A⟩ | ⟨v, A⟩ | ⟨v, A⟩ | ⟨v, A⟩ | ⟨v, A⟩
          all_goals first | (exfalso; omega) | skip
          obtain ⟨e3, s4, q3, A⟩ := A
          rw [hR1] at q3
          obtain ⟨g7, r8, k5, h⟩ := h
          rcases wit_pr hnn (by omega) (W7 (x := 1) (R6 1) (SK6 1)) (SK6 1).2.2.1 (SK6 1).2.2.2 f6 k5 rfl rfl q3 rfl rfl with ⟨v1, v2, p, v3, v4⟩ | ⟨v1, v2, v3⟩
          · have R7 := ((R6 1).cc (k := 52) (by decide) (by decide) (p : Int)).cd (j := 3236 + 8 * nn + 1) (by omega) (by omega) (p : Int)
            rcases h with ⟨x3, -⟩ | ⟨x3, g10, r11, k6, h⟩
            · omega
            · rcases A with ⟨x4, -⟩ | ⟨x4, e6, s7, q4, A⟩
              · omega
              · rcases pass_pr (i := 15) (by omega) v4.2.2.1 v4.2.2.2 (f7 R7 v4) k6 rfl rfl q4 rfl rfl rfl with ⟨t1, t2, t3⟩ | ⟨t1, t2, t3⟩
                · have S8 := v4.tr t3
                  rcases h with ⟨x5, -⟩ | ⟨x5, g13, r14, k7, h⟩
                  · omega
                  · rcases A with ⟨x6, -⟩ | ⟨x6, e9, s10, q5, A⟩
                    · omega
                    · rw [hR2] at q5
                      rcases sub_pr hnn (by omega) (W7 (x := 0) R7 S8) S8.2.2.1 S8.2.2.2 (f7 R7 S8) k7 rfl rfl q5 rfl rfl with ⟨u1, u2, p2, u3, u4⟩ | ⟨u1, u2, u3⟩
                      · rcases h with ⟨x7, -⟩ | ⟨x7, g16, r17, k8, h⟩
                        · omega
                        · rcases A with ⟨x8, -⟩ | ⟨x8, A⟩
                          · omega
                          · obtain ⟨l1, l2⟩ := oI A
                            refine done ((R7.cc (k := 53) (by decide) (by decide) (p2 : Int)).cd (j := 3236 + 8 * nn + 2) (by omega) (by omega) (p2 : Int)) ⟨1, by decide, by rw [cup_ne (by omega), cup_ne (by omega), cup_at]; rfl, by rw [cup_ne (by omega), cup_ne (by omega), hcode]; rfl, fun _ => ⟨p, v3, by rw [cup_ne (by omega), cup_at], by rw [cup_ne (by omega), cup_at]⟩, fun q => absurd q (by decide), fun _ => ⟨p2, u3, by rw [cup_at], by rw [cup_at]⟩, fun q => absurd q (by decide), fun q => absurd q (by decide), fun q => absurd q (by decide)⟩ (by unfold OP; rw [cup_ne (by omega), cup_ne (by omega), cup_at]; omega) (by rw [l1]; exact ((S8.cupd (k := 254) (by decide) (by decide) _ _).cupc (k := 53) (by decide) (by decide) (by decide) _ _).tr u4) (by omega) k8 (r8 := r17) ?_ ?_
                            · rcases h with ⟨_, o⟩ | ⟨_, o⟩ <;> exact (oI o).1
                            · rcases h with ⟨j1, o⟩ | ⟨j1, o⟩
                              · exact Or.inl ⟨j1, (oI o).2⟩
                              · exact Or.inr (Or.inl ⟨j1, (oI o).2⟩)
                      · rcases h with ⟨x7, o⟩ | ⟨x7, -⟩
                        · rcases A with ⟨x8, A⟩ | ⟨x8, -⟩
                          · obtain ⟨l1, l2⟩ := oI A
                            obtain ⟨l3, l4⟩ := oI o
                            exact bad (by rw [l1, l3]; exact u3) l4 l2
                          · omega
                        · omega
                · rcases h with ⟨x5, o⟩ | ⟨x5, -⟩
                  · rcases A with ⟨x6, A⟩ | ⟨x6, -⟩
                    · obtain ⟨l1, l2⟩ := oI A
                      obtain ⟨l3, l4⟩ := oI o
                      exact bad (by rw [l1, l3]; exact t3) l4 l2
                    · omega
                  · omega
          · rcases h with ⟨x3, o⟩ | ⟨x3, -⟩
            · rcases A with ⟨x4, A⟩ | ⟨x4, -⟩
              · obtain ⟨l1, l2⟩ := oI A
                obtain ⟨l3, l4⟩ := oI o
                exact bad (by rw [l1, l3]; exact v3) l4 l2
              · omega
            · omega
        · -- when
          have hw : w = 19 := by omega
          subst hw
          rw [show km 19 = 19 from rfl] at q2
          rcases m_ord q2 rfl rfl rfl with ⟨v, A⟩ | ⟨v, A⟩ | ⟨v, A⟩ | ⟨v, A⟩ | ⟨v, A⟩ | ⟨v, A⟩ | ⟨v, A⟩ | ⟨v, A⟩
          all_goals first | (exfalso; omega) | skip
          obtain ⟨e3, s4, q3, A⟩ := A
          obtain ⟨l1, l2⟩ := oI A
          obtain ⟨g7, r8, k5, h⟩ := h
          rcases test_pr hnn (by omega) (by omega) W6 S0.2.2.1 S0.2.2.2 f6 k5 rfl rfl q3 rfl rfl with ⟨u1, u2, c1, d1, u3, ⟨uv, uo1, uo2⟩, u4⟩ | ⟨u1, u2, u3⟩
          · rcases h with ⟨x7, -⟩ | ⟨x7, g16, r17, k8, h⟩
            · omega
            · refine done u3 uv (by unfold OP; omega) (by rw [l1]; exact u4) (by omega) k8 (r8 := r17) ?_ ?_
              · rcases h with ⟨_, o⟩ | ⟨_, o⟩ <;> exact (oI o).1
              · rcases h with ⟨j1, o⟩ | ⟨j1, o⟩
                · exact Or.inl ⟨j1, (oI o).2⟩
                · exact Or.inr (Or.inl ⟨j1, (oI o).2⟩)
          · rcases h with ⟨x7, o⟩ | ⟨x7, -⟩
            · obtain ⟨l3, l4⟩ := oI o
              exact bad (by rw [l1, l3]; exact u3) l4 (by omega)
            · omega
        · omega
        · omega
        · -- loop
          have hw : w = 22 := by omega
          subst hw
          rw [show km 22 = 20 from rfl] at q2
          rcases m_ord q2 rfl rfl rfl with ⟨v, A⟩ | ⟨v, A⟩ | ⟨v, A⟩ | ⟨v, A⟩ | ⟨v, A⟩ | ⟨v, A⟩ | ⟨v, A⟩ | ⟨v, A⟩
          all_goals first | (exfalso; omega) | skip
          obtain ⟨e3, s4, q3, A⟩ := A
          obtain ⟨l1, l2⟩ := oI A
          rw [hR1] at q3
          obtain ⟨g7, r8, k5, h⟩ := h
          have h := h (by omega) (by omega)
          rcases num_pr (by omega) (SK6 7).2.2.1 (SK6 7).2.2.2 f6 k5 rfl rfl rfl q3 rfl rfl rfl rfl with ⟨v1, v2, v3, v4⟩ | ⟨v1, v2, v3⟩
          · rw [show (((3236 + 8 * nn + 1 : Nat) : Int)).toNat = 3236 + 8 * nn + 1 from rfl] at v4
            rcases h with ⟨x7, -⟩ | ⟨x7, g16, r17, k8, h⟩
            · omega
            · refine done (((R6 7).cc (k := 55) (by decide) (by decide) r8).cd (j := 3236 + 8 * nn + 1) (by omega) (by omega) r8) ⟨7, by decide, by rw [cup_ne (by omega), cup_at]; rfl, by rw [cup_ne (by omega), hcode]; rfl, fun q => absurd q (by decide), fun q => absurd q (by decide), fun q => absurd q (by decide), fun q => absurd q (by decide), fun q => absurd q (by decide), fun _ => ⟨r8.toNat, by omega, by omega, by rw [cup_at]; omega, by rw [cup_at]; omega⟩⟩ (by unfold OP; rw [cup_ne (by omega), cup_at]; omega) (by rw [l1]; exact v4.cupc (k := 55) (by decide) (by decide) (by decide) _ _) (by omega) k8 (r8 := r17) ?_ ?_
              · rcases h with ⟨_, o⟩ | ⟨_, o⟩ <;> exact (oI o).1
              · rcases h with ⟨j1, o⟩ | ⟨j1, o⟩
                · exact Or.inl ⟨j1, (oI o).2⟩
                · exact Or.inr (Or.inl ⟨j1, (oI o).2⟩)
          · rcases h with ⟨x7, o⟩ | ⟨x7, -⟩
            · obtain ⟨l3, l4⟩ := oI o
              exact bad (by rw [l1, l3]; exact v3.cupc (by decide) _ _) l4 (by omega)
            · omega
        · -- stop
          have hw : w = 24 := by omega
          subst hw
          rw [show km 24 = 22 from rfl] at q2
          rcases m_ord q2 rfl rfl rfl with ⟨v, A⟩ | ⟨v, A⟩ | ⟨v, A⟩ | ⟨v, A⟩ | ⟨v, A⟩ | ⟨v, A⟩ | ⟨v, A⟩ | ⟨v, A⟩
          all_goals first | (exfalso; omega) | skip
          obtain ⟨l1, l2⟩ := oI A
          obtain ⟨g63, r64, k8, o⟩ := h
          obtain ⟨l3, l4⟩ := oI o
          exact done (R6 8) ⟨8, by decide, by rw [cup_at]; rfl, by rw [hcode]; rfl, fun q => absurd q (by decide), fun q => absurd q (by decide), fun q => absurd q (by decide), fun q => absurd q (by decide), fun q => absurd q (by decide), fun q => absurd q (by decide)⟩ (by unfold OP; rw [cup_at]; omega) (by rw [l1]; exact SK6 8) (by omega) k8 l3 (Or.inr (Or.inr l4))
      · exact absurd x3 x1
    · exfalso
      rcases hf with ⟨a1, a2⟩ | ⟨a1, a2, a3⟩ | ⟨a1, a2, a3, a4, a5⟩
      · exact a2 hsk
      · omega
      · have := hop a4; omega
  · rcases hq with ⟨hsk, hs, hop, -⟩ | ⟨f2, x, y2, hf2, q2, e⟩
    · exfalso
      rcases hf with ⟨a1, a2⟩ | ⟨a1, a2, a3⟩ | ⟨a1, a2, a3, a4, a5⟩
      · exact a2 hsk
      · omega
      · have := hop a4; omega
    · have ef := hf.un hf2
      subst ef
      rcases h with ⟨x3, -⟩ | ⟨x3, o⟩
      · exact absurd x1 x3
      · obtain ⟨l1, l2⟩ := oI o
        obtain ⟨l3, l4⟩ := oI e
        have hf0 : 0 < f := by rcases hf with ⟨a1, _⟩ | ⟨a1, _⟩ | ⟨a1, _⟩ <;> omega
        obtain ⟨z1, z2, z3⟩ := fail_pr hT a3 hf0 k2 rfl rfl q2 rfl rfl
        exact Or.inr ⟨l2, by rw [l4, z2], by rw [l1, l3]; exact z3⟩
theorem endt_pr {nn dp s : Nat} (hS : TS c d m nn dp s np nq) (hk : c 88 7 = 23) (h : zr sv L n 66 0 lf [] c (c', some (0, r))) (h0 : lf 0 = (4, 90)) (h' : zr sv L n' 193 0 lf' [] d (d', some (0, r'))) (h0' : lf' 0 = (4, 253)) : (r = 1 ∧ r' = 1 ∧ (∃ n2 dp2 s2, TS c' d' m n2 dp2 s2 np nq ∧ ETI c d c' d' nn dp n2 dp2) ∧ c 88 5 < c' 88 5) ∨ (r = 0 ∧ r' = 0 ∧ FLT c' d') := by
  obtain ⟨hE, hT, a3, a4, ⟨b1, b2, b3, b4, b5, b6⟩, ⟨w1, w2, w3⟩, a7⟩ := hS
  have h := t_end h h0
  obtain ⟨e0, s2, q1, h'⟩ := m_stp0 h' h0'
  obtain ⟨u1, u2⟩ := tq_key hE hT q1 rfl rfl
  rw [u1] at h'
  have hs2 : s2 = 21 := by
    rcases u2 with ⟨z1, z2⟩ | ⟨w, z1, z2, z3⟩
    · omega
    · have : w = 23 := by omega
      rw [z3, this]; rfl
  rcases h' with ⟨y1, -⟩ | ⟨y1, ⟨y2, ly, v0, v1, v2, v3, v4, hx⟩ | ⟨y2, -⟩⟩
  · omega
  · rw [b2] at v2 v3
    rw [show w32 (8 * (nn : Int)) = ((8 * nn : Nat) : Int) by rw [w32_id (by omega) (by omega)]; omega, show w32 (3236 + ((8 * nn : Nat) : Int)) = ((3236 + 8 * nn : Nat) : Int) by rw [w32_id (by omega) (by omega)]; omega] at v3
    rcases m_stp44 hx v0 v1 v2 v3 v4 with ⟨x1, -⟩ | ⟨x1, ⟨x2, -⟩ | ⟨x2, ⟨x3, -⟩ | ⟨x3, ⟨x4, -⟩ | ⟨x4, hx⟩⟩⟩⟩
    · omega
    · omega
    · omega
    · omega
    · rcases hx with ⟨x5, ⟨-, lz, j0, j1, j2, j3, j4, j5, hz⟩ | ⟨x6, -⟩⟩ | ⟨x5, g21, r22, k2, e⟩
      · -- a when or loop is open
        rw [b4] at x5
        obtain ⟨q, hq⟩ : ∃ q : Nat, dp = q + 1 := ⟨dp - 1, by omega⟩
        rw [show (((3236 + 8 * nn : Nat) : Int)).toNat = 3236 + 8 * nn from rfl, b6, show w32 ((s : Int) + 0) = (s : Int) by rw [w32_id (by omega) (by omega)]; omega] at hz
        obtain ⟨M, d3, lf1, y0, y1', y2', y3, y4, hx, y6⟩ := zer_l (R := 3236 + 8 * nn) (by omega) n' (e := 1) j0 j1 j2 j3 j4 j5 (by omega) (by omega) hz
        have D1 : ∀ k j : Nat, ¬ (k = 254 ∧ 3236 + 8 * nn ≤ j ∧ j < 3236 + 8 * nn + 8) → d3 k j = d k j := fun k j n2 => by
          rw [y6 k j (fun e => n2 ⟨e.1, by omega, by omega⟩), cup_ne (fun e => n2 ⟨e.1, by omega, by omega⟩)]
          by_cases e : k = 253 ∧ j = 23
          · rw [e.1, e.2, cup_at, b6]
          · rw [cup_ne e]
        have Dc : d3 254 (3236 + 8 * nn) = 21 := by
          rw [y6 254 (3236 + 8 * nn) (by omega), cup_at, hs2]
        obtain ⟨e1, q2, e2, s3, q3, hx⟩ := m_stp176 hx y0 y1' y2' y3 y4
        rw [D1 254 2983 (by omega), b2, show w32 ((nn : Int) + 1) = ((nn + 1 : Nat) : Int) by rw [w32_id (by omega) (by omega)]; rfl] at q2
        have B1 : ∀ k j : Nat, ¬ (k = 254 ∧ 3236 + 8 * nn ≤ j ∧ j < 3236 + 8 * nn + 8) → ¬ (k = 254 ∧ j = 2983) → cup d3 254 2983 ((nn + 1 : Nat) : Int) k j = d k j := fun k j n1 n2 => by rw [cup_ne n2]; exact D1 k j n1
        have B2 : cup d3 254 2983 ((nn + 1 : Nat) : Int) 254 2983 = ((nn + 1 : Nat) : Int) := cup_at
        have B3 : cup d3 254 2983 ((nn + 1 : Nat) : Int) 254 (3236 + 8 * nn) = 21 := by rw [cup_ne (by omega)]; exact Dc
        generalize cup d3 254 2983 ((nn + 1 : Nat) : Int) = d4 at q2 B1 B2 B3
        have E4 : TE c d4 m := hE.gen rfl rfl rfl (B1 253 11 (by omega) (by omega)) (funext fun j => B1 260 j (by omega) (by omega)) (B1 253 17 (by omega) (by omega))
        have T4 : TQ c d4 m := hT.gen rfl (fun j j1 j2 => B1 253 j (by omega) (by omega)) (funext fun j => B1 260 j (by omega) (by omega))
        have K4 : c 88 4 = 1 := tq_kk hT (by omega)
        rcases h with ⟨x7, -⟩ | ⟨x7, ⟨x8, g5, k4, h⟩ | ⟨x8, -⟩⟩
        · omega
        · have S0 : SU c d4 g5 e1 m := adv_su (c0 := c) E4 T4 (Or.inl K4) k4 rfl q2 rfl
          have lt := (adv_lt E4 T4 (Or.inl K4) k4 rfl).2
          have C5 : ∀ k j : Nat, k ≠ 88 → g5 k j = c k j := fun k j hk => by rw [S0.1.1.row hk]
          have e1f : ∀ k j : Nat, ¬ (k = 253 ∧ 12 ≤ j ∧ j ≤ 15) → e1 k j = d4 k j := fun k j hn => S0.2.1 k j hn
          rw [hs2] at q3
          rcases m_ord q3 rfl rfl rfl with ⟨v, -⟩ | ⟨v, -⟩ | ⟨v, -⟩ | ⟨v, -⟩ | ⟨v, -⟩ | ⟨v, -⟩ | ⟨v, -⟩ | ⟨v, A⟩
          all_goals first | (exfalso; omega) | skip
          obtain ⟨l1, l2⟩ := oI A
          rw [C5 90 6 (by omega), b3, hq, show w32 (((q + 1 : Nat) : Int) - 1) = (q : Int) by rw [w32_id (by omega) (by omega)]; omega, show ((q : Int)).toNat = q from rfl] at h
          obtain ⟨o, o1, o2, o3⟩ := a7 q (by omega)
          rw [C5 91 q (by omega), o2, C5 50 2 (by omega), b1, show ((o : Int)).toNat = o from rfl, show ((nn : Int)).toNat = nn from rfl, show w32 ((nn : Int) + 1) = ((nn + 1 : Nat) : Int) by rw [w32_id (by omega) (by omega)]; rfl] at h
          have h := h (by omega) (by omega) (by omega) (by omega)
          rcases hx with ⟨x9, ⟨-, ⟨x10, -⟩ | ⟨x10, hx⟩⟩ | ⟨x10, -⟩⟩ | ⟨x9, -⟩
          · exact absurd hs2 x10
          · have f22 : e2 253 22 = ((q + 1 : Nat) : Int) := by rw [l1, e1f 253 22 (by omega), B1 253 22 (by omega) (by omega), b4, hq]
            have f261 : e2 261 q = (o : Int) := by rw [l1, e1f 261 q (by omega), B1 261 q (by omega) (by omega), o3]
            rw [f22, show w32 (((q + 1 : Nat) : Int) - 1) = (q : Int) by rw [w32_id (by omega) (by omega)]; omega, show ((q : Int)).toNat = q from rfl, f261, show w32 (8 * (o : Int)) = ((8 * o : Nat) : Int) by rw [w32_id (by omega) (by omega)]; omega, show w32 (3236 + ((8 * o : Nat) : Int)) = ((3236 + 8 * o : Nat) : Int) by rw [w32_id (by omega) (by omega)]; omega, show (w32 (((3236 + 8 * o : Nat) : Int) + 5)).toNat = 3236 + 8 * o + 5 by rw [w32_id (by omega) (by omega)]; omega, show (w32 (((3236 + 8 * nn : Nat) : Int) + 5)).toNat = 3236 + 8 * nn + 5 by rw [w32_id (by omega) (by omega)]; omega] at hx
            obtain ⟨d11, s12, q5, e'⟩ := hx (by omega) (by omega)
            obtain ⟨l3, l4⟩ := oI e'
            rw [l1] at q5
            have fin : ∀ {K : Int} {g11 : cg} {r12 : Int}, ((c 51 o = 7 ∧ K = 10) ∨ (c 51 o ≠ 7 ∧ K = 9)) → zr sv L n 42 0 (darg 0 [(4, 88)]) [] (cup (cup (cup (cup (cup (cup g5 90 6 (q : Int)) 51 nn K) 57 nn (o : Int)) 57 o (nn : Int)) 58 nn (q : Int)) 50 2 ((nn + 1 : Nat) : Int)) (g11, some (0, r12)) → (c', (some (0, r) : Option cv)) = (g11, some (0, r12)) → (r = 1 ∧ r' = 1 ∧ (∃ n2 dp2 s2, TS c' d' m n2 dp2 s2 np nq ∧ ETI c d c' d' nn dp n2 dp2) ∧ c 88 5 < c' 88 5) ∨ (r = 0 ∧ r' = 0 ∧ FLT c' d') := by
              intro K g11 r12 hKo kz ez
              obtain ⟨l5, l6⟩ := oI ez
              have CC : ∀ k j : Nat, k ≠ 90 → k ≠ 51 → k ≠ 57 → k ≠ 58 → k ≠ 50 → cup (cup (cup (cup (cup (cup g5 90 6 (q : Int)) 51 nn K) 57 nn (o : Int)) 57 o (nn : Int)) 58 nn (q : Int)) 50 2 ((nn + 1 : Nat) : Int) k j = g5 k j := fun k j i1 i2 i3 i4 i5 => by rw [cup_ne (by omega), cup_ne (by omega), cup_ne (by omega), cup_ne (by omega), cup_ne (by omega), cup_ne (by omega)]
              have DD : ∀ k j : Nat, ¬ (k = 253 ∧ j = 22) → ¬ (k = 254 ∧ 3236 ≤ j ∧ j < 3236 + 8 * nn + 8) → cup (cup (cup e1 253 22 (q : Int)) 254 (3236 + 8 * nn + 5) (o : Int)) 254 (3236 + 8 * o + 5) (nn : Int) k j = e1 k j := fun k j i1 i2 => by rw [cup_ne (by omega), cup_ne (by omega), cup_ne (by omega)]
              have T : TS (cup (cup (cup (cup (cup (cup g5 90 6 (q : Int)) 51 nn K) 57 nn (o : Int)) 57 o (nn : Int)) 58 nn (q : Int)) 50 2 ((nn + 1 : Nat) : Int)) (cup (cup (cup e1 253 22 (q : Int)) 254 (3236 + 8 * nn + 5) (o : Int)) 254 (3236 + 8 * o + 5) (nn : Int)) m (nn + 1) q s np nq := by
                refine ⟨S0.2.2.1.gen (funext fun j => CC 88 j (by omega) (by omega) (by omega) (by omega) (by omega)) (funext fun j => CC 2 j (by omega) (by omega) (by omega) (by omega) (by omega)) (funext fun j => CC 89 j (by omega) (by omega) (by omega) (by omega) (by omega)) (DD 253 11 (by omega) (by omega)) (funext fun j => DD 260 j (by omega) (by omega)) (DD 253 17 (by omega) (by omega)), S0.2.2.2.gen (funext fun j => CC 88 j (by omega) (by omega) (by omega) (by omega) (by omega)) (fun j j1 j2 => DD 253 j (by omega) (by omega)) (funext fun j => DD 260 j (by omega) (by omega)), ?_, ?_, ⟨?_, ?_, ?_, ?_, ?_, ?_⟩, ⟨w1, by omega, by omega⟩, fun k hk => ?_⟩
                · rw [DD 253 18 (by omega) (by omega), e1f 253 18 (by omega), B1 253 18 (by omega) (by omega)]; exact a3
                · exact a4.fr (fun k hk => funext fun j => by rw [CC k j (by omega) (by omega) (by omega) (by omega) (by omega), C5 k j (by omega)]) (by rw [DD 254 0 (by omega) (by omega), e1f 254 0 (by omega), B1 254 0 (by omega) (by omega)]) (by rw [DD 254 1 (by omega) (by omega), e1f 254 1 (by omega), B1 254 1 (by omega) (by omega)]) (funext fun j => by rw [DD 255 j (by omega) (by omega), e1f 255 j (by omega), B1 255 j (by omega) (by omega)])
                · rw [cup_at]
                · rw [DD 254 2983 (by omega) (by omega), e1f 254 2983 (by omega)]; exact B2
                · rw [cup_ne (by omega), cup_ne (by omega), cup_ne (by omega), cup_ne (by omega), cup_ne (by omega), cup_at]
                · rw [cup_ne (by omega), cup_ne (by omega), cup_at]
                · rw [cup_ne (by omega), cup_ne (by omega), cup_ne (by omega), cup_ne (by omega), cup_ne (by omega), cup_ne (by omega), C5 50 1 (by omega)]; exact b5
                · rw [DD 253 23 (by omega) (by omega), e1f 253 23 (by omega), B1 253 23 (by omega) (by omega)]; exact b6
                · obtain ⟨o', i1, i2, i3⟩ := a7 k (by omega)
                  exact ⟨o', by omega, by rw [CC 91 k (by omega) (by omega) (by omega) (by omega) (by omega), C5 91 k (by omega)]; exact i2, by rw [DD 261 k (by omega) (by omega), e1f 261 k (by omega), B1 261 k (by omega) (by omega)]; exact i3⟩
              rcases stop_pr T.1 T.2.1 T.2.2.1 kz rfl q5 rfl rfl with ⟨t1, t2, t3⟩ | ⟨t1, t2, t3⟩
              · have cz : ∀ k j : Nat, k ≠ 88 → c' k j = cup (cup (cup (cup (cup (cup g5 90 6 (q : Int)) 51 nn K) 57 nn (o : Int)) 57 o (nn : Int)) 58 nn (q : Int)) 50 2 ((nn + 1 : Nat) : Int) k j := fun k j hk => by rw [l5, t3.1.1.row hk]
                have dz : ∀ j : Nat, d' 254 j = cup (cup (cup e1 253 22 (q : Int)) 254 (3236 + 8 * nn + 5) (o : Int)) 254 (3236 + 8 * o + 5) (nn : Int) 254 j := fun j => by rw [l3, t3.2.1 254 j (by omega)]
                refine Or.inl ⟨by omega, by omega, ⟨nn + 1, q, s, by rw [l5, l3]; exact T.su t3, rfl, q, o, hq, rfl, o1, o2, fun k j k1 k2 k3 k4 => ?_, fun k hk => ?_, ⟨?_, ?_, ?_⟩, ?_, fun j j1 j2 j3 => ?_, ?_, ?_, ?_⟩, ?_⟩
                · rw [cz k j (by omega), cup_ne (by omega), cup_ne (by omega), cup_ne (by omega), cup_ne (by omega), cup_ne (by omega), cup_ne (by omega), C5 k j (by omega)]
                · rw [cz 91 k (by omega), CC 91 k (by omega) (by omega) (by omega) (by omega) (by omega), C5 91 k (by omega)]
                · rw [cz 57 nn (by omega), cup_ne (by omega), cup_ne (by omega), cup_ne (by omega), cup_at]
                · rw [cz 57 o (by omega), cup_ne (by omega), cup_ne (by omega), cup_at]
                · rw [cz 58 nn (by omega), cup_ne (by omega), cup_at]
                · rw [cz 51 nn (by omega), cup_ne (by omega), cup_ne (by omega), cup_ne (by omega), cup_ne (by omega), cup_at]; exact hKo
                · rw [dz j, cup_ne (by omega), cup_ne (by omega), cup_ne (by omega), e1f 254 j (by omega), B1 254 j (by omega) (by omega)]
                · rw [dz (3236 + 8 * nn), cup_ne (by omega), cup_ne (by omega), cup_ne (by omega), e1f 254 _ (by omega)]; exact B3
                · rw [dz (3241 + 8 * nn), cup_ne (by omega), show 3241 + 8 * nn = 3236 + 8 * nn + 5 by omega, cup_at]
                · rw [dz (3241 + 8 * o), show 3241 + 8 * o = 3236 + 8 * o + 5 by omega, cup_at]
                have := t3.1.2
                rw [CC 88 5 (by omega) (by omega) (by omega) (by omega) (by omega)] at this
                rw [l5]; omega
              · exact Or.inr ⟨by omega, by omega, by rw [l5, l3]; exact t3⟩
            rw [C5 51 o (by omega)] at h
            rcases h with ⟨ko, g11, r12, kz, ez⟩ | ⟨ko, g11, r12, kz, ez⟩
            · exact fin (Or.inr ⟨ko, rfl⟩) kz ez
            · exact fin (Or.inl ⟨ko, rfl⟩) kz ez
          · omega
          · omega
        · omega
      · omega
      · -- none is open
        rw [b4] at x5
        obtain ⟨l1, l2⟩ := oI e
        rcases h with ⟨x7, g2, r3, k4, o⟩ | ⟨x7, -⟩
        · obtain ⟨l3, l4⟩ := oI o
          obtain ⟨z1, z2, z3⟩ := fail_pr hT a3 (by decide) k4 rfl rfl k2 rfl rfl
          exact Or.inr ⟨by rw [l4, z1], by rw [l2, z2], by rw [l3, l1]; exact z3⟩
        · omega
  · omega
end Tri
/-- a when or loop with its END, on both sides -/
def PAJ (c d : cg) (nn o e : Nat) : Prop := o < e ∧ e < nn ∧ (4 ≤ c 51 o ∧ c 51 o ≤ 7) ∧ c 57 o = (e : Int) ∧ c 57 e = (o : Int) ∧ d 254 (3241 + 8 * o) = (e : Int) ∧ d 254 (3241 + 8 * e) = (o : Int) ∧ ((c 51 o = 7 ∧ c 51 e = 10) ∨ (c 51 o ≠ 7 ∧ c 51 e = 9)) ∧ ∃ D : Nat, D ≤ 2 ∧ c 58 o = (D : Int) ∧ c 58 e = (D : Int)
def RWI (c d : cg) (np nq nn dp : Nat) : Prop := (∀ r : Nat, r < nn → VRW c d np nq r (3236 + 8 * r) ∨ ((c 51 r = 9 ∨ c 51 r = 10) ∧ d 254 (3236 + 8 * r) = 21)) ∧ (∀ e : Nat, e < nn → 9 ≤ c 51 e → ∃ o : Nat, PAJ c d nn o e) ∧ (∀ o : Nat, o < nn → 4 ≤ c 51 o → c 51 o ≤ 7 → (∃ e : Nat, PAJ c d nn o e) ∨ ∃ i : Nat, i < dp ∧ c 91 i = (o : Int)) ∧ (∀ i : Nat, i < dp → i ≤ 2 ∧ ∃ o : Nat, o < nn ∧ c 91 i = (o : Int) ∧ (4 ≤ c 51 o ∧ c 51 o ≤ 7) ∧ c 58 o = (i : Int)) ∧ (∀ i o o' e' : Nat, i < dp → c 91 i = (o : Int) → PAJ c d nn o' e' → (o < o' ∧ (i : Int) < c 58 o') ∨ e' < o) ∧ (∀ i j : Nat, i < j → j < dp → c 91 i < c 91 j) ∧ ∀ o e o' e' : Nat, PAJ c d nn o e → PAJ c d nn o' e' → o < o' → o' < e → e' < e ∧ c 58 o < c 58 o'
section Rwi
variable {c d c' d' : cg} {np nq nn dp n2 dp2 o e : Nat}
theorem PAJ.fw (h : PAJ c d nn o e) (hn : e < n2) (h1 : ∀ k : Nat, 51 ≤ k → k ≤ 58 → c' k o = c k o ∧ c' k e = c k e) (h2 : d' 254 (3241 + 8 * o) = d 254 (3241 + 8 * o)) (h3 : d' 254 (3241 + 8 * e) = d 254 (3241 + 8 * e)) : PAJ c' d' n2 o e := by
  obtain ⟨p1, p2, p3, p4, p5, p6, p7, p8, D, p9, pa, pb⟩ := h
  have a := h1 51 (by decide) (by decide)
  have b := h1 57 (by decide) (by decide)
  have f := h1 58 (by decide) (by decide)
  exact ⟨p1, hn, by rw [a.1]; exact p3, b.1.trans p4, b.2.trans p5, h2.trans p6, h3.trans p7, by rw [a.1, a.2]; exact p8, D, p9, f.1.trans pa, f.2.trans pb⟩
theorem PAJ.e9z (h : PAJ c d nn o e) : 9 ≤ c 51 e := by
  rcases h.2.2.2.2.2.2.2.1 with ⟨-, z⟩ | ⟨-, z⟩ <;> omega
theorem RWI.st0 (h0 : nn = 0) (h1 : dp = 0) : RWI c d np nq nn dp := by
  subst h0
  subst h1
  exact ⟨fun r hr => absurd hr (Nat.not_lt_zero r), fun r hr => absurd hr (Nat.not_lt_zero r), fun r hr => absurd hr (Nat.not_lt_zero r), fun r hr => absurd hr (Nat.not_lt_zero r), fun i _ _ _ hi => absurd hi (Nat.not_lt_zero i), fun _ j _ hj => absurd hj (Nat.not_lt_zero j), fun o e _ _ p => absurd p.2.1 (Nat.not_lt_zero e)⟩
theorem RWI.sti (h : RWI c d np nq nn dp) (s : STI c d c' d' np nq nn dp n2 dp2) : RWI c' d' np nq n2 dp2 := by
  obtain ⟨a1, a2, a3, a4, a5, a6, a7⟩ := h
  obtain ⟨s1, s2, s3, s4, s5, s6⟩ := s
  subst s1
  have hK : 0 ≤ c' 51 nn ∧ c' 51 nn ≤ 8 := by
    obtain ⟨K, k1, k2, -⟩ := id s5
    omega
  have C : ∀ k j : Nat, 51 ≤ k → k ≤ 58 → j < nn → c' k j = c k j := fun k j k1 k2 k3 => s2 k j k1 k2 (by omega)
  have hfw : ∀ {o e : Nat}, PAJ c d nn o e → PAJ c' d' (nn + 1) o e := fun {o e} p => by
    have p1 := p.1
    have p2 := p.2.1
    exact p.fw (by omega) (fun k k1 k2 => ⟨C k o k1 k2 (by omega), C k e k1 k2 (by omega)⟩) (s3 _ (by omega) (by omega)) (s3 _ (by omega) (by omega))
  have hbw : ∀ {o e : Nat}, PAJ c' d' (nn + 1) o e → PAJ c d nn o e := fun {o e} p => by
    have p1 := p.1
    have p2 := p.2.1
    have p3 := p.e9z
    have e1 : e ≠ nn := fun q => by
      rw [q] at p3
      omega
    exact p.fw (by omega) (fun k k1 k2 => ⟨(C k o k1 k2 (by omega)).symm, (C k e k1 k2 (by omega)).symm⟩) (s3 _ (by omega) (by omega)).symm (s3 _ (by omega) (by omega)).symm
  refine ⟨fun r hr => ?_, fun e he h9 => ?_, fun o ho h4 h7 => ?_, fun i hi => ?_, fun i o o' e' hi ho p => ?_, fun i j h1 h2 => ?_, fun o e o' e' p p' l1 l2 => ?_⟩
  · by_cases z : r = nn
    · rw [z]; exact Or.inl s5
    · rcases a1 r (by omega) with q | q
      · exact Or.inl (q.mvz (fun k k1 k2 => C k r k1 (by omega) (by omega)) (fun j j1 j2 _ => s3 j (by omega) (by omega)))
      · exact Or.inr ⟨by rw [C 51 r (by decide) (by decide) (by omega)]; exact q.1, by rw [s3 _ (by omega) (by omega)]; exact q.2⟩
  · have z : e ≠ nn := fun z => by
      rw [z] at h9
      omega
    rw [C 51 e (by decide) (by decide) (by omega)] at h9
    obtain ⟨o, p⟩ := a2 e (by omega) h9
    exact ⟨o, hfw p⟩
  · by_cases z : o = nn
    · rw [z] at h4 h7
      rcases s6 with ⟨y1, y2⟩ | ⟨y1, y2, y3, y4, y5⟩
      · exact absurd ⟨h4, h7⟩ y2
      · exact Or.inr ⟨dp, by omega, by rw [z]; exact y4⟩
    · rw [C 51 o (by decide) (by decide) (by omega)] at h4 h7
      rcases a3 o (by omega) h4 h7 with ⟨e, p⟩ | ⟨i, i1, i2⟩
      · exact Or.inl ⟨e, hfw p⟩
      · exact Or.inr ⟨i, by omega, by rw [s4 i i1]; exact i2⟩
  · by_cases z : i < dp
    · obtain ⟨o0, o, o1, o2, o3, o4⟩ := a4 i z
      exact ⟨o0, o, by omega, by rw [s4 i z]; exact o2, by rw [C 51 o (by decide) (by decide) o1]; exact o3, by rw [C 58 o (by decide) (by decide) o1]; exact o4⟩
    · rcases s6 with ⟨y1, y2⟩ | ⟨y1, y2, y3, y4, y5⟩
      · omega
      · have e : i = dp := by omega
        rw [e]
        exact ⟨y2, nn, by omega, y4, y3, y5⟩
  · have p0 := hbw p
    have q1 := p0.1
    have q2 := p0.2.1
    by_cases z : i < dp
    · rw [s4 i z] at ho
      rw [C 58 o' (by decide) (by decide) (by omega)]
      exact a5 i o o' e' z ho p0
    · rcases s6 with ⟨y1, y2⟩ | ⟨y1, y2, y3, y4, y5⟩
      · omega
      · have e : i = dp := by omega
        rw [e] at ho
        exact Or.inr (by omega)
  · by_cases z : j < dp
    · rw [s4 i (by omega), s4 j z]
      exact a6 i j h1 z
    · rcases s6 with ⟨y1, y2⟩ | ⟨y1, y2, y3, y4, y5⟩
      · omega
      · have e : j = dp := by omega
        obtain ⟨-, o, o1, o2, -⟩ := a4 i (by omega)
        rw [e, y4, s4 i (by omega)]
        omega
  · have p0 := hbw p
    have p0' := hbw p'
    have q1 := p0.1
    have q2 := p0.2.1
    have q3 := p0'.1
    have q4 := p0'.2.1
    rw [C 58 o (by decide) (by decide) (by omega), C 58 o' (by decide) (by decide) (by omega)]
    exact a7 o e o' e' p0 p0' l1 l2
theorem RWI.eti (h : RWI c d np nq nn dp) (s : ETI c d c' d' nn dp n2 dp2) : RWI c' d' np nq n2 dp2 := by
  obtain ⟨a1, a2, a3, a4, a5, a6, a7⟩ := h
  obtain ⟨t1, q, o, t2, t3, s1, s2, s3, s4, ⟨s5, s6, s7⟩, s8, s9, sa, sb, sc⟩ := s
  subst t1
  subst t2
  subst t3
  obtain ⟨hd, o', o1, o2, o3, o4⟩ := a4 dp2 (by omega)
  have eo : o' = o := by omega
  subst eo
  have C : ∀ k j : Nat, 51 ≤ k → k ≤ 58 → j < nn → ¬ (k = 57 ∧ j = o') → c' k j = c k j := fun k j k1 k2 k3 k4 => s3 k j k1 k2 (by omega) k4
  have hp : PAJ c' d' (nn + 1) o' nn := ⟨o1, by omega, by rw [C 51 o' (by decide) (by decide) o1 (by omega)]; exact o3, s6, s5, sc, sb, by rw [C 51 o' (by decide) (by decide) o1 (by omega)]; exact s8, dp2, hd, by rw [C 58 o' (by decide) (by decide) o1 (by omega)]; exact o4, s7⟩
  have nO : ∀ {i e : Nat}, PAJ c d nn i e → i ≠ o' ∧ e ≠ o' := fun {i e} p => by
    have p1 := p.1
    have p9 := p.e9z
    refine ⟨fun z => ?_, fun z => ?_⟩
    · rw [z] at p p1
      rcases a5 dp2 o' o' e (by omega) o2 p with w | w <;> omega
    · rw [z] at p9
      omega
  have hfw : ∀ {i e : Nat}, PAJ c d nn i e → PAJ c' d' (nn + 1) i e := fun {i e} p => by
    have p1 := p.1
    have p2 := p.2.1
    obtain ⟨n1, n2⟩ := nO p
    exact p.fw (by omega) (fun k k1 k2 => ⟨C k i k1 k2 (by omega) (by omega), C k e k1 k2 (by omega) (by omega)⟩) (s9 _ (by omega) (by omega) (by omega)) (s9 _ (by omega) (by omega) (by omega))
  have hbw : ∀ {i e : Nat}, PAJ c' d' (nn + 1) i e → (i = o' ∧ e = nn) ∨ PAJ c d nn i e := fun {i e} p => by
    have p1 := p.1
    have p2 := p.2.1
    have p9 := p.e9z
    obtain ⟨-, -, -, p4, p5, -⟩ := id p
    by_cases z : e = nn
    · rw [z] at p5
      exact Or.inl ⟨by omega, z⟩
    · have n1 : i ≠ o' := fun w => by
        rw [w] at p4
        omega
      have n2 : e ≠ o' := fun w => by
        rw [w, C 51 o' (by decide) (by decide) o1 (by omega)] at p9
        omega
      exact Or.inr (p.fw (by omega) (fun k k1 k2 => ⟨(C k i k1 k2 (by omega) (by omega)).symm, (C k e k1 k2 (by omega) (by omega)).symm⟩) (s9 _ (by omega) (by omega) (by omega)).symm (s9 _ (by omega) (by omega) (by omega)).symm)
  have c58 : c' 58 o' = (dp2 : Int) := by rw [C 58 o' (by decide) (by decide) o1 (by omega)]; exact o4
  refine ⟨fun r hr => ?_, fun e he h9 => ?_, fun i ho h4 h7 => ?_, fun i hi => ?_, fun i j i' e' hi ho p => ?_, fun i j h1 h2 => ?_, fun i e i' e' p p' l1 l2 => ?_⟩
  · by_cases z : r = nn
    · rw [z]; exact Or.inr ⟨by rcases s8 with ⟨-, w⟩ | ⟨-, w⟩ <;> omega, sa⟩
    · rcases a1 r (by omega) with w | w
      · exact Or.inl (w.mvz (fun k k1 k2 => C k r k1 (by omega) (by omega) (by omega)) (fun j j1 j2 j3 => s9 j (by omega) (by omega) (by omega)))
      · exact Or.inr ⟨by rw [C 51 r (by decide) (by decide) (by omega) (by omega)]; exact w.1, by rw [s9 _ (by omega) (by omega) (by omega)]; exact w.2⟩
  · by_cases z : e = nn
    · rw [z]; exact ⟨o', hp⟩
    · rw [C 51 e (by decide) (by decide) (by omega) (by omega)] at h9
      obtain ⟨i, p⟩ := a2 e (by omega) h9
      exact ⟨i, hfw p⟩
  · have z : i ≠ nn := fun z => by
      rw [z] at h7
      rcases s8 with ⟨-, w⟩ | ⟨-, w⟩ <;> omega
    rw [C 51 i (by decide) (by decide) (by omega) (by omega)] at h4 h7
    rcases a3 i (by omega) h4 h7 with ⟨e, p⟩ | ⟨j, j1, j2⟩
    · exact Or.inl ⟨e, hfw p⟩
    · by_cases w : j = dp2
      · rw [w] at j2
        have : i = o' := by omega
        rw [this]
        exact Or.inl ⟨nn, hp⟩
      · exact Or.inr ⟨j, by omega, by rw [s4 j j1]; exact j2⟩
  · obtain ⟨w0, w, w1, w2, w3, w4⟩ := a4 i (by omega)
    exact ⟨w0, w, by omega, by rw [s4 i (by omega)]; exact w2, by rw [C 51 w (by decide) (by decide) w1 (by omega)]; exact w3, by rw [C 58 w (by decide) (by decide) w1 (by omega)]; exact w4⟩
  · rw [s4 i (by omega)] at ho
    rcases hbw p with ⟨w1, w2⟩ | p0
    · have := a6 i dp2 hi (by omega)
      rw [w1, c58]
      exact Or.inl ⟨by omega, by omega⟩
    · have q1 := p0.1
      have q2 := p0.2.1
      rw [C 58 i' (by decide) (by decide) (by omega) (by omega)]
      exact a5 i j i' e' (by omega) ho p0
  · rw [s4 i (by omega), s4 j (by omega)]
    exact a6 i j h1 (by omega)
  · rcases hbw p with ⟨w1, w2⟩ | p0
    · rcases hbw p' with ⟨w3, w4⟩ | p0'
      · omega
      · have q3 := p0'.1
        have q4 := p0'.2.1
        rw [w1, c58, C 58 i' (by decide) (by decide) (by omega) (by omega)]
        rcases a5 dp2 o' i' e' (by omega) o2 p0' with ⟨y1, y2⟩ | y
        · exact ⟨by omega, y2⟩
        · omega
    · have q1 := p0.1
      have q2 := p0.2.1
      rcases hbw p' with ⟨w3, w4⟩ | p0'
      · rcases a5 dp2 o' i e (by omega) o2 p0 with ⟨y1, y2⟩ | y <;> omega
      · have q3 := p0'.1
        have q4 := p0'.2.1
        rw [C 58 i (by decide) (by decide) (by omega) (by omega), C 58 i' (by decide) (by decide) (by omega) (by omega)]
        exact a7 i e i' e' p0 p0' l1 l2
/-- the whole text read -/
theorem RWI.fin (h : RWI c d np nq nn 0) : (∀ r : Nat, r < nn → TROW (vc 45 c) (vd 2976 3236 d) np nq r) ∧ NEST (vc 45 c) nn := by
  obtain ⟨a1, a2, a3, -, -, -, a7⟩ := h
  have cl : ∀ i : Nat, i < nn → 4 ≤ c 51 i → c 51 i ≤ 7 → ∃ e : Nat, PAJ c d nn i e := fun i hi h4 h7 => by
    rcases a3 i hi h4 h7 with p | ⟨j, j1, -⟩
    · exact p
    · exact absurd j1 (Nat.not_lt_zero j)
  have D : ∀ r j : Nat, j < 8 → vd 2976 3236 d 254 (260 + j + 8 * r) = d 254 (3236 + j + 8 * r) := fun r j hj => by
    rw [vd_hi (by omega), show 3236 + (260 + j + 8 * r - 260) = 3236 + j + 8 * r by omega]
  have D0 : ∀ r : Nat, vd 2976 3236 d 254 (260 + 8 * r) = d 254 (3236 + 8 * r) := fun r => D r 0 (by decide)
  have D1 : ∀ r : Nat, vd 2976 3236 d 254 (261 + 8 * r) = d 254 (3236 + 8 * r + 1) := fun r => by rw [D r 1 (by decide), show 3236 + 1 + 8 * r = 3236 + 8 * r + 1 by omega]
  have D2 : ∀ r : Nat, vd 2976 3236 d 254 (262 + 8 * r) = d 254 (3236 + 8 * r + 2) := fun r => by rw [D r 2 (by decide), show 3236 + 2 + 8 * r = 3236 + 8 * r + 2 by omega]
  have D3 : ∀ r : Nat, vd 2976 3236 d 254 (263 + 8 * r) = d 254 (3236 + 8 * r + 3) := fun r => by rw [D r 3 (by decide), show 3236 + 3 + 8 * r = 3236 + 8 * r + 3 by omega]
  have D4 : ∀ r : Nat, vd 2976 3236 d 254 (264 + 8 * r) = d 254 (3236 + 8 * r + 4) := fun r => by rw [D r 4 (by decide), show 3236 + 4 + 8 * r = 3236 + 8 * r + 4 by omega]
  have D5 : ∀ r : Nat, vd 2976 3236 d 254 (265 + 8 * r) = d 254 (3241 + 8 * r) := fun r => D r 5 (by decide)
  have D6 : ∀ r : Nat, vd 2976 3236 d 254 (266 + 8 * r) = d 254 (3236 + 8 * r + 6) := fun r => by rw [D r 6 (by decide), show 3236 + 6 + 8 * r = 3236 + 8 * r + 6 by omega]
  have tzI : ∀ {i e : Nat}, PAJ c d nn i e → PAI (vc 45 c) nn i e := fun p => by
    obtain ⟨p1, p2, p3, p4, p5, p6, p7, p8, E, p9, pa, pb⟩ := p
    exact ⟨p1, p2, p3, p4, p5, p8, E, p9, pa, pb⟩
  have fzI : ∀ {i e : Nat}, PAI (vc 45 c) nn i e → PAJ c d nn i e := fun {i e} p => by
    obtain ⟨p1, p2, ⟨p3, p3'⟩, p4, p5, p6⟩ := p
    obtain ⟨e2, q⟩ := cl i (by omega) p3 p3'
    have q4 := q.2.2.2.1
    have : e2 = e := by
      have p4 : c 57 i = (e : Int) := p4
      omega
    rw [this] at q
    exact q
  refine ⟨fun r hr => ?_, fun e he h9 => ?_, fun i hi h4 => ?_, fun i e i' e' p p' l1 l2 => a7 i e i' e' (fzI p) (fzI p') l1 l2⟩
  · unfold TROW
    rw [D0, D1, D2, D3, D4, D5, D6]
    rcases a1 r hr with ⟨K, k1, k2, k3, k4, k5, k6, k7, k8, k9⟩ | ⟨w1, w2⟩
    · exact ⟨K, by omega, k2, k3, k4, k5, k6, k7, k8, k9, fun w => by
        obtain ⟨e, q⟩ := cl r hr (by omega) (by omega)
        exact q.2.2.2.2.2.1.trans q.2.2.2.1.symm⟩
    · obtain ⟨i, q⟩ := a2 r hr (by omega)
      have hq : d 254 (3241 + 8 * r) = c 57 r := q.2.2.2.2.2.2.1.trans q.2.2.2.2.1.symm
      rcases w1 with w1 | w1
      · exact ⟨9, by decide, w1, w2, fun w => absurd w (by decide), fun w => absurd w (by decide), fun w => absurd w (by decide), fun w => absurd w (by decide), fun w => absurd w (by decide), fun w => absurd w (by decide), fun _ => hq⟩
      · exact ⟨10, by decide, w1, w2, fun w => absurd w (by decide), fun w => absurd w (by decide), fun w => absurd w (by decide), fun w => absurd w (by decide), fun w => absurd w (by decide), fun w => absurd w (by decide), fun _ => hq⟩
  · obtain ⟨i, q⟩ := a2 e he h9
    exact ⟨i, tzI q⟩
  · obtain ⟨e, q⟩ := cl i hi h4.1 h4.2
    exact ⟨e, tzI q⟩
end Rwi
theorem CT.mv7 {c c' d d' : cg} {np nq N : Nat} (h : CT c d np nq N) (e : SCL c c' np nq N) (hd : ∀ j : Nat, j < 260 → j ≠ 7 → d' 254 j = d 254 j) : CT c' d' np nq N := by
  obtain ⟨⟨a1, a2, a3⟩, ⟨b1, b2, b3⟩, ⟨c1, c2, c3⟩, ⟨d1, d2, d3, d4⟩, h5, h6, h7⟩ := h
  obtain ⟨e1, e2, e3, e4⟩ := e
  refine ⟨⟨a1, a2, a3⟩, ⟨by rw [e1 0 (by decide)]; exact b1, by rw [e1 3 (by decide)]; exact b2, by rw [e1 9 (by decide)]; exact b3⟩, ⟨by rw [hd 0 (by decide) (by decide)]; exact c1, by rw [hd 1 (by decide) (by decide)]; exact c2, by rw [hd 2 (by decide) (by decide)]; exact c3⟩, ⟨by rw [hd 3 (by decide) (by decide), e1 5 (by decide)]; exact d1, by rw [hd 4 (by decide) (by decide), e1 6 (by decide)]; exact d2, by rw [hd 5 (by decide) (by decide), e1 7 (by decide)]; exact d3, by rw [hd 6 (by decide) (by decide), e1 8 (by decide)]; exact d4⟩, fun i hi => by rw [hd _ (by omega) (by omega), e2 i hi]; exact h5 i hi, fun i hi => ?_, fun k hk j hj => by rw [hd _ (by omega) (by omega), e4 k hk j (by omega)]; exact h7 k hk j hj⟩
  obtain ⟨⟨p1, p2, p3, p4, p5⟩, p6⟩ := h6 i hi
  obtain ⟨f1, f2⟩ := e3 i hi
  refine ⟨⟨?_, ?_, ?_, ?_, ?_⟩, fun t ht => ?_⟩
  · rw [hd _ (by omega) (by omega), f1 1 (by decide) (by decide)]; exact p1
  · rw [hd _ (by omega) (by omega), f1 2 (by decide) (by decide)]; exact p2
  · rw [hd _ (by omega) (by omega), f1 3 (by decide) (by decide)]; exact p3
  · rw [hd _ (by omega) (by omega), f1 4 (by decide) (by decide)]; exact p4
  · rw [hd _ (by omega) (by omega), f1 5 (by decide) (by decide)]; exact p5
  · rw [hd _ (by omega) (by omega)]
    unfold trh
    rw [f2 t ht]
    exact p6 t ht
section Tri2
variable {sv : Nat → Int32} {L : Nat} {n n' : Nat} {lf lf' : dlf} {c d c' d' : cg} {m np nq : Nat} {r r' : Int}
/-- step by step -/
theorem tr_l {o' : cg × Option cv} : ∀ (n : Nat) {n' : Nat} {lf lf' : dlf} {c d : cg} {b nn dp s : Nat}, TS c d m nn dp s np nq → RWI c d np nq nn dp → lf 0 = (4, 90) → lf 2 = (0, (b : Int)) → (b : Int) ≤ c 88 5 → zr sv L n 65 22 lf [] c (c', some (0, r)) → lf' 0 = (4, 253) → lf' 2 = (0, 1) → zr sv L n' 276 38 lf' [] d o' → ∃ N d2 lf2, lf2 0 = (4, 253) ∧ zr sv L N 276 57 lf2 [] d2 o' ∧ ((∃ N1 c2 lf1 nn dp s, lf1 0 = (4, 90) ∧ zr sv L N1 65 75 lf1 [] c2 (c', some (0, r)) ∧ TS c2 d2 m nn dp s np nq ∧ RWI c2 d2 np nq nn dp) ∨ (r = 0 ∧ FLT c' d2))
  | 0, _, _, _, _, _, _, _, _, _, _, _, _, _, _, h, _, _, _ => (zr_0 h).elim
  | n + 1, n', lf, lf', c, d, b, nn, dp, s, hS, hRW, h0, h2, hb, h, h0', h2', h' => by
    cases n' with
    | zero => exact (zr_0 h').elim
    | succ n' =>
      have hE := hS.1
      have hT := hS.2.1
      have hm9 := hE.1
      rcases m_tr38 h' h0' h2' with ⟨y1, -⟩ | ⟨-, hm⟩
      · exact absurd y1 (by decide)
      · have stop : c 88 4 = 0 → (∃ lx : dlf, lx 0 = (4, 90) ∧ zr sv L n 65 75 lx [] c (c', some (0, r))) → ∃ N d2 lf2, lf2 0 = (4, 253) ∧ zr sv L N 276 57 lf2 [] d2 o' ∧ ((∃ N1 c2 lf1 nn dp s, lf1 0 = (4, 90) ∧ zr sv L N1 65 75 lf1 [] c2 (c', some (0, r)) ∧ TS c2 d2 m nn dp s np nq ∧ RWI c2 d2 np nq nn dp) ∨ (r = 0 ∧ FLT c' d2)) := by
          intro hz ⟨lx, j0, j1⟩
          have hz' := (tq_kinds hT).1.mp hz
          rcases hm with ⟨y2, ly, z0, hx⟩ | ⟨y2, -⟩
          · exact ⟨n', d, ly, z0, hx, Or.inl ⟨n, c, lx, nn, dp, s, j0, j1, hS, hRW⟩⟩
          · exact absurd hz' y2
        have next : ∀ {c1 : cg} {r1 : Int}, c 88 4 ≠ 0 → (∀ {d1 : cg} {s1 : Int}, zr sv L n' 193 0 (darg 0 [(4, 253)]) [] d (d1, some (0, s1)) → (r1 = 1 ∧ s1 = 1 ∧ (∃ n2 dp2 s2, TS c1 d1 m n2 dp2 s2 np nq ∧ RWI c1 d1 np nq n2 dp2) ∧ c 88 5 < c1 88 5) ∨ (r1 = 0 ∧ s1 = 0 ∧ FLT c1 d1)) → ((r1 ≠ 0 ∧ ∃ lx : dlf, lx 0 = (4, 90) ∧ lx 2 = (0, w32 ((b : Int) + 1)) ∧ zr sv L n 65 22 lx [] c1 (c', some (0, r))) ∨ (r1 = 0 ∧ (c', (some (0, r) : Option cv)) = (c1, some (0, 0)))) → (b : Int) < 900 → ∃ N d2 lf2, lf2 0 = (4, 253) ∧ zr sv L N 276 57 lf2 [] d2 o' ∧ ((∃ N1 c2 lf1 nn dp s, lf1 0 = (4, 90) ∧ zr sv L N1 65 75 lf1 [] c2 (c', some (0, r)) ∧ TS c2 d2 m nn dp s np nq ∧ RWI c2 d2 np nq nn dp) ∨ (r = 0 ∧ FLT c' d2)) := by
          intro c1 r1 hz hst hx hb9
          have hz' : d 253 12 ≠ 0 := fun e => hz ((tq_kinds hT).1.mpr e)
          rcases hm with ⟨y2, -⟩ | ⟨y2, d5, r6, k2, ly, z0, z2, hy⟩
          · exact absurd y2 hz'
          · rcases hst k2 with ⟨w1, w2, ⟨n2, dp2, s2, w3, wr⟩, w4⟩ | ⟨w1, w2, w3⟩
            · rcases hx with ⟨x3, lx, a0, a2, h⟩ | ⟨x3, -⟩
              · rw [w2] at z2
                exact tr_l n (b := b + 1) w3 wr a0 (by rw [a2, w32_id (by omega) (by omega)]; rfl) (by omega) h z0 z2 hy
              · omega
            · rcases hx with ⟨x3, -⟩ | ⟨x3, h⟩
              · omega
              · obtain ⟨e1, e2⟩ := oI h
                cases n' with
                | zero => exact (zr_0 hy).elim
                | succ n' =>
                  rcases m_tr38 hy z0 z2 with ⟨y3, lz, a0, hz2⟩ | ⟨y3, -⟩
                  · exact ⟨n', d5, lz, a0, hz2, Or.inr ⟨e2, by rw [e1]; exact w3⟩⟩
                  · exact absurd w2 y3
        rcases t_takeTr22 h h0 h2 with ⟨x1, h⟩ | ⟨x1, ⟨x2, h⟩ | ⟨x2, ⟨x3, g6, r7, k1, h⟩ | ⟨x3, g10, r11, k1, h⟩⟩⟩
        · exact stop (tq_end hT (by omega)) h
        · exact stop x2 h
        · exact next x2 (fun k2 => by
          rcases step_pr hS x3 k1 rfl k2 rfl with ⟨w1, w2, ⟨n2, dp2, s2, w3, w4⟩, w5⟩ | w
          · exact Or.inl ⟨w1, w2, ⟨n2, dp2, s2, w3, hRW.sti w4⟩, w5⟩
          · exact Or.inr w) h x1
        · exact next x2 (fun k2 => by
          rcases endt_pr hS x3 k1 rfl k2 rfl with ⟨w1, w2, ⟨n2, dp2, s2, w3, w4⟩, w5⟩ | w
          · exact Or.inl ⟨w1, w2, ⟨n2, dp2, s2, w3, hRW.eti w4⟩, w5⟩
          · exact Or.inr w) h x1
theorem tc_l {o : cg × Option cv} : ∀ (n : Nat) {lf : dlf} {g : cg} {b : Nat}, lf 0 = (4, 253) → lf 3 = (0, (b : Int)) → b ≤ 740 → zr sv L n 276 103 lf [] g o → ∃ N g1 lf1, lf1 0 = (4, 253) ∧ zr sv L N 276 132 lf1 [] g1 o ∧ (∀ k : Nat, k ≠ 254 → g1 k = g k) ∧ (∀ j : Nat, j < b ∨ 740 ≤ j → g1 254 j = g 254 j) ∧ ∀ j : Nat, b ≤ j → j < 740 → g1 254 j = g 254 (2976 + j)
  | 0, _, _, _, _, _, _, h => (zr_0 h).elim
  | n + 1, lf, g, b, h0, h3, hb, h => by
    rcases m_tr103 h h0 h3 with ⟨x1, lx, z0, h⟩ | ⟨x1, h⟩
    · exact ⟨n, g, lx, z0, h, fun _ _ => rfl, fun _ _ => rfl, fun j h1 h2 => by omega⟩
    · have e : w32 (2976 + (b : Int)) = ((2976 + b : Nat) : Int) := by
        rw [w32_id (by omega) (by omega)]
        omega
      rw [e] at h
      obtain ⟨lx, z0, z3, h⟩ := h (by omega) (by omega)
      rw [show ((b : Int)).toNat = b from rfl, show (((2976 + b : Nat) : Int)).toNat = 2976 + b from rfl] at h
      obtain ⟨N, g1, lf1, y0, y1, y3, y4, y5⟩ := tc_l n (b := b + 1) z0 (by rw [z3, w32_id (by omega) (by omega)]; rfl) (by omega) h
      refine ⟨N, g1, lf1, y0, y1, fun k hk => (y3 k hk).trans (cup_row g _ _ hk), fun j hj => by rw [y4 j (by omega), cup_ne (by omega)], fun j j1 j2 => ?_⟩
      by_cases e : j = b
      · subst e
        rw [y4 _ (by omega), cup_at]
      · rw [y5 j (by omega) j2, cup_ne (by omega)]
theorem trials_eq {a : Int} (hP : PRE c d) (hW : WN c d np nq) (h : zr sv L n 275 0 lf [] c (c', some (0, r))) (h0 : lf 0 = (4, 0)) (h1 : lf 1 = (0, a)) (h' : zr sv L n' 276 0 lf' [] d (d', some (0, r'))) (h0' : lf' 0 = (4, 253)) (h1' : lf' 1 = (0, a)) : r = r' ∧ (0 ≤ r → TRS c' d' np nq) := by
  have neg : r = -1 → r' = -1 → r = r' ∧ (0 ≤ r → TRS c' d' np nq) := fun e e' => ⟨by omega, fun q => by omega⟩
  obtain ⟨k, hk9, hk, hk', hcb, hdb, htp, hks⟩ := hP
  obtain ⟨g1, r2, k1, h⟩ := t_trials h h0 h1
  obtain ⟨d1, r2', k2, h'⟩ := m_tr0 h' h0' h1'
  have mref : r2' = 0 → r' = -1 := by
    intro z2
    rcases h' with ⟨y2, -⟩ | ⟨y2, g6, r7, k4, h'⟩
    · exact absurd z2 y2
    · have e2 := (oI (m_refuse k4 rfl rfl)).2
      have e4 := (oI h').2
      omega
  have cref : r2 = 0 ∨ 300 < a → r = -1 := by
    intro z1
    rcases h with ⟨y1, g4, r5, k3, h⟩ | ⟨y1, ⟨y2, -⟩ | ⟨y2, g15, r16, k3, h⟩⟩
    · have e1 := (oI (t_refuse k3 rfl rfl)).2
      have e3 := (oI h).2
      omega
    · omega
    · have e1 := (oI (t_refuse k3 rfl rfl)).2
      have e3 := (oI h).2
      omega
  rcases t_within k1 rfl rfl rfl with ⟨x1, x2⟩ | ⟨x1, ⟨x2, x3⟩ | ⟨x2, x3⟩⟩
  · rcases m_begins0 k2 rfl rfl rfl with ⟨y1, y2⟩ | ⟨y1, y2⟩
    · exact neg (cref (Or.inl (oI x2).2)) (mref (oI y2).2)
    · omega
  · rcases m_begins0 k2 rfl rfl rfl with ⟨y1, y2⟩ | ⟨y1, ⟨y2, y3⟩ | ⟨y2, y3⟩⟩
    · omega
    · exact neg (cref (Or.inl (oI x3).2)) (mref (oI y3).2)
    · omega
  · rcases m_begins0 k2 rfl rfl rfl with ⟨y1, y2⟩ | ⟨y1, ⟨y2, y3⟩ | ⟨y2, ⟨y3, lx, z0, z1, z3, k3⟩ | ⟨y3, y4⟩⟩⟩
    · omega
    · omega
    · obtain ⟨ma, hma⟩ : ∃ ma : Nat, a = (ma : Int) := ⟨a.toNat, by omega⟩
      rw [hma] at z1 k3
      obtain ⟨e1, e2⟩ := oI x3
      rcases h with ⟨u1, -⟩ | ⟨u1, ⟨-, g7, r8, k4, h⟩ | ⟨u2, -⟩⟩
      · omega
      · obtain ⟨N, d2, lf2, w0, k5, w1, w2, w3⟩ := tx_l (m := ma) (by omega) n' (j := 0) z0 z1 z3 (Nat.zero_le _) (fun i hi => by
          rw [cup_row d _ _ (by decide), htp i (by omega)]; exact hcb i (by omega)) (fun i hi => absurd hi (Nat.not_lt_zero i)) k3
        obtain ⟨d4, k6, he⟩ := m_begins49 k5 w0
        obtain ⟨e3, e4⟩ := oI he
        obtain ⟨c1, k7, c2, k8, ly, v0, v2, k9⟩ := t_takeTr0 k4 rfl rfl
        have e5 := oV (t_tclear k7 rfl)
        obtain ⟨g5, r6, k11, g8, k12, he2⟩ := t_tbegin k8 rfl rfl
        have e7 := oV he2
        have hmin : g5 = cup c1 90 6 0 ∧ r6 = (ma : Int) := by
          rcases t_min k11 rfl rfl with ⟨q1, q2⟩ | ⟨q1, q2⟩
          · omega
          · obtain ⟨q3, q4⟩ := oI q2
            exact ⟨q3, by omega⟩
        obtain ⟨e8, e9⟩ := hmin
        rw [e8, e9] at k12
        have Crow : ∀ k : Nat, k ≠ 0 → k ≠ 50 → k ≠ 90 → k ≠ 88 → cup (cup (cup (cup (cup c1 90 6 0) 88 2 (ma : Int)) 88 3 0) 88 10 0) 88 11 (-1) k = c k := fun k q1 q2 q3 q4 => by
          rw [cup_row _ _ _ q4, cup_row _ _ _ q4, cup_row _ _ _ q4, cup_row _ _ _ q4, cup_row _ _ _ q3, e5, cup_row _ _ _ q2, cup_row _ _ _ q2, cup_row _ _ _ q2, cup_row _ _ _ q1, e1]
        have d3row : ∀ k : Nat, k ≠ 253 → cup (cup (cup (cup (cup d2 253 10 0) 253 18 0) 253 17 (-1)) 253 14 0) 253 19 0 k = d2 k := fun k q => by
          rw [cup_row _ _ _ q, cup_row _ _ _ q, cup_row _ _ _ q, cup_row _ _ _ q, cup_row _ _ _ q]
        have hE3 : TE (cup (cup (cup (cup (cup c1 90 6 0) 88 2 (ma : Int)) 88 3 0) 88 10 0) 88 11 (-1)) (cup (cup (cup (cup (cup d2 253 10 0) 253 18 0) 253 17 (-1)) 253 14 0) 253 19 0) ma := by
          refine ⟨by omega, ?_, ?_, ?_, ?_, ?_, ?_, by rw [cup_ne (by decide), cup_at], by rw [cup_at], by rw [cup_ne (by decide), cup_ne (by decide), cup_at]⟩
          · rw [cup_ne (by decide), cup_ne (by decide), cup_ne (by decide), cup_at]
          · rw [cup_ne (by decide), cup_ne (by decide), cup_ne (by decide), cup_ne (by decide), cup_ne (by decide), w1 253 (by decide), cup_at]
          · rw [Crow 2 (by decide) (by decide) (by decide) (by decide)]
            exact hcb
          · unfold MBY at hdb ⊢
            rw [d3row 260 (by decide)]
            intro j hj
            by_cases e : j < ma
            · rw [w2 j e, cup_row d _ _ (by decide), htp j (by omega)]; exact hcb j (by omega)
            · rw [w3 j (by omega), cup_row d _ _ (by decide)]; exact hdb j hj
          · intro j hj
            rw [d3row 260 (by decide), Crow 2 (by decide) (by decide) (by decide) (by decide), w2 j hj, cup_row d _ _ (by decide)]
            exact htp j (by omega)
          · intro i hi
            rw [Crow 89 (by decide) (by decide) (by decide) (by decide)]
            exact hks i hi
        obtain ⟨f1, f2, hE4, hT4⟩ := adv_ahd (a := 0) hE3 (Eq.trans (b := (0 : Int)) (by rw [cup_ne (by decide), cup_ne (by decide), cup_at]) rfl) (Eq.trans (b := (0 : Int)) (by rw [cup_ne (by decide), cup_at]) rfl) (Nat.zero_le _) k12 rfl k6 rfl
        rcases h' with ⟨u2, lz, v3, v4, k14⟩ | ⟨u2, -⟩
        · have D4 : ∀ k j : Nat, ¬ (k = 254 ∧ j = 2983) → ¬ (k = 253 ∧ j = 22) → ¬ (k = 253 ∧ j = 23) → cup (cup (cup d1 254 2983 0) 253 22 0) 253 23 0 k j = d4 k j := fun k j i1 i2 i3 => by rw [cup_ne i3, cup_ne i2, cup_ne i1, e3]
          have hS : TS g8 (cup (cup (cup d1 254 2983 0) 253 22 0) 253 23 0) ma 0 0 0 np nq := by
            refine ⟨hE4.gen rfl rfl rfl (D4 253 11 (by omega) (by omega) (by omega)) (funext fun j => D4 260 j (by omega) (by omega) (by omega)) (D4 253 17 (by omega) (by omega) (by omega)), hT4.gen rfl (fun j j1 j2 => D4 253 j (by omega) (by omega) (by omega)) (funext fun j => D4 260 j (by omega) (by omega) (by omega)), ?_, ?_, ⟨?_, ?_, ?_, ?_, ?_, ?_⟩, ⟨by omega, by omega, by omega⟩, fun k hk => absurd hk (Nat.not_lt_zero k)⟩
            · rw [D4 253 18 (by omega) (by omega) (by omega), f2 253 18 (by omega), cup_ne (by decide), cup_ne (by decide), cup_ne (by decide), cup_at]
            · obtain ⟨⟨a1, a2⟩, ⟨b1, b2, b3, b4⟩, b5, b6⟩ := hW
              have R : ∀ k : Nat, k = 3 ∨ k = 5 ∨ (17 ≤ k ∧ k < 45) → g8 k = c k := fun k hk => by rw [f1.row (k := k) (by omega), Crow k (by omega) (by omega) (by omega) (by omega)]
              have Q : ∀ k j : Nat, k = 254 → j < 10 → cup (cup (cup d1 254 2983 0) 253 22 0) 253 23 0 k j = d k j := fun k j i1 i2 => by rw [D4 k j (by omega) (by omega) (by omega), f2 k j (by omega), cup_ne (by omega), cup_ne (by omega), cup_ne (by omega), cup_ne (by omega), cup_ne (by omega), w1 k (by omega), cup_ne (by omega)]
              have Q5 : ∀ j : Nat, cup (cup (cup d1 254 2983 0) 253 22 0) 253 23 0 255 j = d 255 j := fun j => by rw [D4 255 j (by omega) (by omega) (by omega), f2 255 j (by omega), cup_ne (by omega), cup_ne (by omega), cup_ne (by omega), cup_ne (by omega), cup_ne (by omega), w1 255 (by omega), cup_ne (by omega)]
              refine ⟨⟨a1, a2⟩, ⟨by rw [R 3 (by omega)]; exact b1, by rw [Q 254 0 rfl (by omega)]; exact b2, by rw [R 3 (by omega)]; exact b3, by rw [Q 254 1 rfl (by omega)]; exact b4⟩, fun i hi => ?_, fun i hi => ?_⟩
              · rw [R 5 (by omega), Q5]; exact b5 i hi
              · rw [R (17 + 2 * i) (by omega), Q5]; exact b6 i hi
            · exact Eq.trans (b := (0 : Int)) (by rw [f1.row (k := 50) (by decide), cup_row _ _ _ (by decide), cup_row _ _ _ (by decide), cup_row _ _ _ (by decide), cup_row _ _ _ (by decide), cup_row _ _ _ (by decide), e5, cup_at]) rfl
            · exact Eq.trans (b := (0 : Int)) (by rw [cup_ne (by decide), cup_ne (by decide), cup_at]) rfl
            · exact Eq.trans (b := (0 : Int)) (by rw [f1.row (k := 90) (by decide), cup_row _ _ _ (by decide), cup_row _ _ _ (by decide), cup_row _ _ _ (by decide), cup_row _ _ _ (by decide), cup_at]) rfl
            · exact Eq.trans (b := (0 : Int)) (by rw [cup_ne (by decide), cup_at]) rfl
            · exact Eq.trans (b := (0 : Int)) (by rw [f1.row (k := 50) (by decide), cup_row _ _ _ (by decide), cup_row _ _ _ (by decide), cup_row _ _ _ (by decide), cup_row _ _ _ (by decide), cup_row _ _ _ (by decide), e5, cup_ne (by decide), cup_at]) rfl
            · exact Eq.trans (b := (0 : Int)) (by rw [cup_at]) rfl
          have hb0 : ((0 : Nat) : Int) ≤ g8 88 5 := by
            obtain ⟨p, hp, -⟩ := hT4
            omega
          rw [e7] at k9
          obtain ⟨N2, d7, lw, q0, k15, hfin⟩ := tr_l n (b := 0) hS (RWI.st0 rfl rfl) v0 v2 hb0 k9 v3 v4 k14
          have bad : r8 = 0 → ∀ {dx : cg} {Nx : Nat} {lx : dlf}, lx 0 = (4, 253) → 0 < dx 253 18 → zr sv L Nx 276 77 lx [] dx (d', some (0, r')) → r = r' ∧ (0 ≤ r → TRS c' d' np nq) := by
            intro i1 dx Nx lx i2 i3 i4
            rcases h with ⟨j1, -⟩ | ⟨j1, g13, r14, k16, h⟩
            · exact absurd i1 j1
            · have m1 := (oI (t_refuse k16 rfl rfl)).2
              have m2 := (oI h).2
              rcases m_tr77 i4 i2 with ⟨j2, ly2, j3, j4⟩ | ⟨j2, -⟩
              · obtain ⟨dz, sz, k21, hez⟩ := m_tr132 j4 j3
                have m3 := (oI hez).2
                rcases m_taken k21 rfl rfl with ⟨t1, t2⟩ | ⟨t1, g13', r13', k22, t2⟩
                · omega
                · have m4 := (oI t2).2
                  have m5 := (oI (m_refuse k22 rfl rfl)).2
                  exact neg (by omega) (by omega)
              · omega
          rcases hfin with ⟨N1, c9, lv, nn, dp, s, q1, k16, hS9, hRW⟩ | ⟨q1, hF⟩
          · obtain ⟨hE9, hT9, a3, a4, ⟨b1, b2, b3, b4, b5, b6⟩, ⟨ww1, ww2, ww3⟩, a7⟩ := hS9
            rcases t_takeTr75 k16 q1 with ⟨j1, o⟩ | ⟨j1, g2, r3, k17, o⟩
            · obtain ⟨l1, l2⟩ := oI o
              rcases m_tr57 k15 q0 with ⟨j2, -⟩ | ⟨j2, ⟨j3, lx2, i1, i2⟩ | ⟨j3, -⟩⟩
              · exact absurd a3 j2
              · rcases m_tr77 i2 i1 with ⟨j4, -⟩ | ⟨j4, ly2, i3, i4, i5⟩
                · exact absurd a3 j4
                · obtain ⟨N5, d10, lf5, m0, m1, m2, m3, m4⟩ := tc_l N2 (b := 260) i3 i4 (by omega) i5
                  obtain ⟨dz, sz, k21, hez⟩ := m_tr132 m1 m0
                  have m5 := (oI hez).2
                  rw [m2 253 (by decide), cup_row _ _ _ (by decide), b6] at k21
                  rcases h with ⟨p1, g10, k22, g11, r12, k23, h⟩ | ⟨p1, -⟩
                  · have C : TCp 8 50 g7 g10 := by
                      have e := oV (c_tri_3_45 k22 rfl rfl)
                      rw [e]
                      exact tcp_of (T := 8) (S := 50) (by omega)
                    have p2 := (oI (t_give k23 rfl rfl)).2
                    have p3 := (oI h).2
                    have p4 : g10 8 1 = (s : Int) := by
                      rw [C.2.1 1 (by omega), l1, cup_ne (by omega)]; exact b5
                    rcases m_taken k21 rfl rfl with ⟨t1, g11', r11', k24, t2⟩ | ⟨t1, t2⟩
                    · have t3 := (oI t2).2
                      have t4 := (oI (m_gives k24 rfl rfl)).2
                      have pc : ∀ k j : Nat, k ≠ 0 → c' k j = g10 k j := fun k j hk0 => by rw [(oI h).1, (oI (t_give k23 rfl rfl)).1, cup_ne (by omega)]
                      have pd : ∀ j : Nat, d' 254 j = d10 254 j := fun j => by rw [(oI hez).1, (oI t2).1, (oI (m_gives k24 rfl rfl)).1, cup_ne (by omega), cup_ne (by omega)]
                      have dp0 : dp = 0 := by omega
                      subst dp0
                      obtain ⟨R1, R2⟩ := hRW.fin
                      have hnr : g7 50 2 = (nn : Int) := by rw [l1, cup_ne (by omega)]; exact b1
                      have rows : ∀ k x : Nat, 9 ≤ k → k ≤ 16 → x < nn → c' k x = vc 45 c9 k x := fun k x k1 k2 hx => by
                        have q := C.2.2 (k - 9) x (by omega) (by omega)
                        rw [show 8 + 1 + (k - 9) = k by omega, show 50 + 1 + (k - 9) = k + 45 - 3 by omega, l1, cup_ne (by omega)] at q
                        rw [pc k x (by omega)]
                        exact q
                      refine ⟨by omega, fun _ => Or.inr ⟨?_, nn, by omega, ?_, ?_, fun x hx => (R1 x hx).mvr (fun k k1 k2 => rows k x k1 k2 hx) (fun j j1 j2 => ?_), R2.mvr rows⟩⟩
                      · rw [pc 8 0 (by decide), C.2.1 0 (by decide), l1, cup_at]
                      · rw [pc 8 2 (by decide), C.2.1 2 (by decide)]; exact hnr
                      · rw [pd 7, m3 7 (by omega), cup_at]; exact b2
                      · rw [pd j, m4 j (by omega) (by omega), cup_ne (by omega), vd_hi (by omega), show 3236 + (j - 260) = 2976 + j by omega]
                    · exfalso
                      rw [m2 253 (by decide), cup_ne (by omega)] at t1
                      omega
                  · omega
              · omega
            · obtain ⟨l1, l2⟩ := oI o
              rcases m_tr57 k15 q0 with ⟨j2, -⟩ | ⟨j2, ⟨j3, -⟩ | ⟨j3, g5', r6', k18, lx2, i1, i2⟩⟩
              · exact absurd a3 j2
              · omega
              · obtain ⟨z1, z2, z3⟩ := fail_pr hT9 a3 (by decide) k17 rfl rfl k18 rfl rfl
                exact bad (by omega) i1 (by have := z3.1; have := z3.2.1; omega) i2
          · rcases m_tr57 k15 q0 with ⟨j2, lx2, i1, i2⟩ | ⟨j2, -⟩
            · exact bad q1 i1 (by have := hF.1; have := hF.2.1; omega) i2
            · exfalso
              have := hF.1
              have := hF.2.1
              omega
        · omega
      · omega
    · exact neg (cref (Or.inr y3)) (mref (oI y4).2)
theorem tt_trials (har0 : xar 275 xPR = some 1) : TT sv L 275 := by
  intro c g g' al r r' n n' lf lf' hP _ har _ h0 hl h h0' hl' h'
  obtain ⟨hR, hI, hI', hf, hf', fd, fm, hpre⟩ := hP
  have hPRE := hpre rfl
  obtain ⟨a, rfl⟩ := al1 (har0.symm.trans har)
  obtain ⟨⟨hC3, hX3⟩, m, m1, m2, m3, m4⟩ := hR
  have hX3' : RDT c c := by
    unfold RX at hX3
    rw [vc_3, vd_0] at hX3
    exact hX3
  obtain ⟨np, nq, N, hC, hG, -⟩ := hX3'
  obtain ⟨np', nq', w1, ⟨a1, a2, a3, a4⟩, w3, w4⟩ := id hC3
  obtain ⟨⟨x5, x6, xN⟩, ⟨x0, x3, x9⟩, -⟩ := id hC
  have ep : np = np' := by omega
  have eq : nq = nq' := by omega
  rw [ep, eq] at hC hG
  rw [ep] at x5
  rw [eq] at x6
  have hW : WN c g np' nq' := ⟨w1, ⟨a1, by rw [hf 254 (by omega) (by omega)]; exact a2, a3, by rw [hf 254 (by omega) (by omega)]; exact a4⟩, fun i hi => by
    have := w3 i hi
    rw [hf 255 (by omega) (by omega)]
    rw [show 3 + 2 = 5 from rfl] at this
    exact this, fun i hi => by
    have := w4 i hi
    rw [hf 255 (by omega) (by omega)]
    rw [show 3 + 14 + 2 * i = 17 + 2 * i by omega, show 0 + 5 + i = 5 + i by omega] at this
    exact this⟩
  have T := trials_eq hPRE hW h h0 hl.1 h' h0' hl'.1
  refine ⟨fun hr => ?_, T.1⟩
  have hTr := T.2 (by have := hr rfl; have := T.1; omega)
  have D : ∀ q ∈ ([(253, 39, 39), (254, 0, 6), (254, 8, 259), (254, 744, 2975), (255, 0, 47)] : List (Nat × Int × Int)), ∀ j : Nat, q.2.1 ≤ (j : Int) → (j : Int) ≤ q.2.2 → g' q.1 j = c q.1 j := fun q hq j j1 j2 => by
    rw [fm q hq j j1 j2]
    have : q.1 = 253 ∨ q.1 = 254 ∨ q.1 = 255 := by
      rcases List.mem_cons.mp hq with e | hq
      · exact Or.inl (by rw [e])
      · rcases List.mem_cons.mp hq with e | hq
        · exact Or.inr (Or.inl (by rw [e]))
        · rcases List.mem_cons.mp hq with e | hq
          · exact Or.inr (Or.inl (by rw [e]))
          · rcases List.mem_cons.mp hq with e | hq
            · exact Or.inr (Or.inl (by rw [e]))
            · exact Or.inr (Or.inr (by rw [List.mem_singleton.mp hq]))
    rw [hf q.1 (by omega) (by omega)]
  have D1 : ∀ j : Nat, j < 7 → g' 254 j = c 254 j := fun j hj => D (254, 0, 6) (by decide) j (show (0 : Int) ≤ (j : Int) by omega) (show (j : Int) ≤ 6 by omega)
  have D2 : ∀ j : Nat, 8 ≤ j → j < 260 → g' 254 j = c 254 j := fun j j1 j2 => D (254, 8, 259) (by decide) j (show (8 : Int) ≤ (j : Int) by omega) (show (j : Int) ≤ 259 by omega)
  have D5 : ∀ j : Nat, j < 48 → g' 255 j = c 255 j := fun j hj => D (255, 0, 47) (by decide) j (show (0 : Int) ≤ (j : Int) by omega) (show (j : Int) ≤ 47 by omega)
  have E : EQd (xND 3) c g' := fun q hq j j1 j2 => by
    rw [hf' q.1 (xnd_lt (by omega) hq)]
    exact fd q (List.mem_append.mpr (Or.inr (List.mem_append.mpr (Or.inl hq)))) j j1 j2
  have M : ∀ q ∈ xCD 127 ++ (xCD 169 ++ xCD 211), ∀ j : Nat, q.2.1 ≤ (j : Int) → (j : Int) ≤ q.2.2 → q.1 < 253 → g' q.1 j = c q.1 j := fun q hq j j1 j2 j3 => by
    rw [hf' q.1 j3]
    exact fd q (List.mem_append.mpr (Or.inr (List.mem_append.mpr (Or.inr hq)))) j j1 j2
  obtain ⟨e1, e2, e3, e4, e5, e6⟩ := xnd_at E
  have sc : SCL c g' np' nq' N := ⟨fun j hj => e1 j (by omega), fun i hi => e2 i (by omega), fun i hi => ⟨fun j _ hj => e4 i j (by omega) (by omega), fun t ht => e5 i t (by omega) ht⟩, fun k hk j hj => e6 k j (by omega) (by omega)⟩
  have hX : RX 3 0 260 g' := by
    unfold RX
    rw [vc_3, vd_0]
    exact ⟨np', nq', N, hC.mv7 sc (fun j hj h7 => by
      by_cases q : j < 7
      · exact D1 j q
      · exact D2 j (by omega) hj), hG.mv x5 x6 sc, hTr.mvr (by rw [hf' 8 (by omega)]) rfl (fun _ => ⟨by rw [hf' 8 (by omega)], fun k r k1 k2 _ => by rw [hf' k (by omega)]⟩) (fun _ _ _ => rfl)⟩
  refine ⟨⟨hC3.mv ⟨⟨e1 0 (by omega), e1 3 (by omega)⟩, e3, fun j _ hj => e4 j 0 hj (by omega), ⟨D1 0 (by omega), D1 1 (by omega)⟩, fun j hj => D5 _ (by omega)⟩, hX⟩, m, m1, by rw [hf' 0 (by omega), fd (0, 9, 9) (List.mem_cons_self) 9 (by decide) (by decide)]; exact m2, by rw [D (253, 39, 39) (by decide) 39 (by decide) (by decide)]; exact m3, fun i hi => ?_⟩
  exact mk_frx (by omega) M (fun j j1 j2 => D (254, 744, 2975) (by decide) j (show (744 : Int) ≤ (j : Int) by omega) (show (j : Int) ≤ 2975 by omega)) (fun j j1 j2 => D5 j (by omega)) (m4 i hi)
end Tri2
