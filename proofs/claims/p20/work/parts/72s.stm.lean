/-! the other statements -/
theorem TE.told {c d : cg} {m : Nat} (h : TE c d m) (v v' : Int) : TE (cup c 90 4 v) (cup d 253 20 v') m := by
  obtain ⟨h1, h2, h3, h4, h5, h6, h7, k1, k2, k3⟩ := h
  have r2 : cup c 90 4 v 2 = c 2 := cup_row c _ _ (by decide)
  have r89 : cup c 90 4 v 89 = c 89 := cup_row c _ _ (by decide)
  have r260 : cup d 253 20 v' 260 = d 260 := cup_row d _ _ (by decide)
  refine ⟨h1, ?_, ?_, ?_, ?_, ?_, ?_, by rw [cup_ne (by decide)]; exact k1, by rw [cup_ne (by decide)]; exact k2, by rw [cup_ne (by decide)]; exact k3⟩
  · rw [cup_ne (by decide)]; exact h2
  · rw [cup_ne (by decide)]; exact h3
  · rw [r2]; exact h4
  · unfold MBY at *; rw [r260]; exact h5
  · rw [r2, r260]; exact h6
  · rw [r89]; exact h7
theorem TQ.told {c d : cg} {m : Nat} (h : TQ c d m) (v v' : Int) : TQ (cup c 90 4 v) (cup d 253 20 v') m := by
  have r88 : cup c 90 4 v 88 = c 88 := cup_row c _ _ (by decide)
  have r260 : cup d 253 20 v' 260 = d 260 := cup_row d _ _ (by decide)
  have hb : mb (cup d 253 20 v') = mb d := by
    funext j
    unfold mb
    rw [r260]
  have e12 : cup d 253 20 v' 253 12 = d 253 12 := cup_ne (by decide)
  have e13 : cup d 253 20 v' 253 13 = d 253 13 := cup_ne (by decide)
  have e14 : cup d 253 20 v' 253 14 = d 253 14 := cup_ne (by decide)
  have e15 : cup d 253 20 v' 253 15 = d 253 15 := cup_ne (by decide)
  unfold TQ at *
  rw [r88, hb, e12, e13, e14, e15]
  exact h
/-- the bit of a rate, in both words -/
def trA (x y z k : Nat) : Int := (i32 ((i32 ((2048 * x + 4096 * y + 8192 * z : Nat) : Int) >>> (i32 ((11 + k : Nat) : Int) &&& 31)).toInt) &&& i32 1).toInt
def trB (x y z k : Nat) : Int := (i32 ((i32 ((32 * x + 64 * y + 128 * z : Nat) : Int) >>> (i32 ((5 + k : Nat) : Int) &&& 31)).toInt) &&& i32 1).toInt
def trC (x y z k : Nat) : Int := (i32 ((2048 * x + 4096 * y + 8192 * z : Nat) : Int) ||| i32 ((i32 1 <<< (i32 ((11 + k : Nat) : Int) &&& 31)).toInt)).toInt
def trD (x y z k : Nat) : Int := (i32 ((32 * x + 64 * y + 128 * z : Nat) : Int) ||| i32 ((i32 1 <<< (i32 ((5 + k : Nat) : Int) &&& 31)).toInt)).toInt
def trE (k : Nat) (x : Nat) (i : Nat) : Nat := if k = i then 1 else x
def trF (x y z k : Nat) : Bool := (cond (trA x y z k == 0) (!(trB x y z k == 1)) (trB x y z k == 1)) && (trC x y z k == ((2048 * trE k x 0 + 4096 * trE k y 1 + 8192 * trE k z 2 : Nat) : Int)) && (trD x y z k == ((32 * trE k x 0 + 64 * trE k y 1 + 128 * trE k z 2 : Nat) : Int))
theorem tr_all : ∀ x, x < 2 → ∀ y, y < 2 → ∀ z, z < 2 → ∀ k, k < 3 → trF x y z k = true := by decide +kernel
theorem trE_lt {k x i : Nat} (h : x < 2) : trE k x i < 2 := by
  unfold trE
  split <;> omega
theorem tr_st {x y z k : Nat} (hx : x < 2) (hy : y < 2) (hz : z < 2) (hk : k < 3) : ((trA x y z k = 0 ∧ trB x y z k ≠ 1) ∨ (trA x y z k ≠ 0 ∧ trB x y z k = 1)) ∧ trC x y z k = ((2048 * trE k x 0 + 4096 * trE k y 1 + 8192 * trE k z 2 : Nat) : Int) ∧ trD x y z k = ((32 * trE k x 0 + 64 * trE k y 1 + 128 * trE k z 2 : Nat) : Int) := by
  have h := tr_all x hx y hy z hz k hk
  unfold trF at h
  rw [Bool.and_eq_true, Bool.and_eq_true] at h
  obtain ⟨⟨h1, h2⟩, h3⟩ := h
  refine ⟨?_, eq_of_beq h2, eq_of_beq h3⟩
  cases ha : (trA x y z k == 0) with
  | true =>
    rw [ha] at h1
    refine Or.inl ⟨eq_of_beq ha, fun e => ?_⟩
    rw [e] at h1
    exact absurd h1 (by decide)
  | false =>
    rw [ha] at h1
    refine Or.inr ⟨fun e => ?_, eq_of_beq h1⟩
    rw [e] at ha
    exact absurd ha (by decide)
theorem TR.st {t t' : Int} (h : TR t t') {k : Nat} (hk : k < 3) :
    (((i32 ((i32 t >>> (i32 ((11 + k : Nat) : Int) &&& 31)).toInt) &&& i32 1).toInt = 0 ∧ (i32 ((i32 t' >>> (i32 ((5 + k : Nat) : Int) &&& 31)).toInt) &&& i32 1).toInt ≠ 1) ∨
     ((i32 ((i32 t >>> (i32 ((11 + k : Nat) : Int) &&& 31)).toInt) &&& i32 1).toInt ≠ 0 ∧ (i32 ((i32 t' >>> (i32 ((5 + k : Nat) : Int) &&& 31)).toInt) &&& i32 1).toInt = 1)) ∧
    TR ((i32 t ||| i32 ((i32 1 <<< (i32 ((11 + k : Nat) : Int) &&& 31)).toInt)).toInt) ((i32 t' ||| i32 ((i32 1 <<< (i32 ((5 + k : Nat) : Int) &&& 31)).toInt)).toInt) := by
  obtain ⟨x, y, z, hx, hy, hz, e1, e2⟩ := h
  rw [e1, e2]
  obtain ⟨h1, h2, h3⟩ := tr_st hx hy hz hk
  exact ⟨h1, _, _, _, trE_lt hx, trE_lt hy, trE_lt hz, h2, h3⟩
section Stm2
variable {sv : Nat → Int32} {L : Nat} {n n' : Nat} {lf lf' : dlf} {c d c' d' : cg} {m : Nat} {r r' : Int}
/-- a fault at a place kept before -/
theorem at_pr (hf5 : d' 253 18 = 5) {x : Int} (h17 : d' 253 17 = x) (h : zr sv L n 50 0 lf [] c (c', some (0, r))) (h0 : lf 0 = (4, 88)) (h1 : lf 1 = (0, x)) (h2 : lf 2 = (0, 5)) : r = 0 ∧ FLT c' d' := by
  obtain ⟨e1, e2⟩ := oI (t_failAt h h0 h1 h2)
  refine ⟨e2, ?_, ?_, ?_⟩
  · rw [e1, hf5, cup_ne (by decide), cup_at]
  · rw [e1, cup_ne (by decide), cup_at]; decide
  · rw [e1, h17, cup_at]
/-- passUntwinned() and oneOf(but, to, true) -/
theorem unt_pr {np nq to : Nat} {a : Int} (hto : to = 3716 ∨ to = 3717) (hE : TE c d m) (hT : TQ c d m) (hD : DR c d np nq) (hf : d 253 18 = 0) (h : zr sv L n 53 0 lf [] c (c', some (0, r))) (h0 : lf 0 = (4, 90)) (h' : zr sv L n' 186 0 lf' [] d (d', some (0, r'))) (h0' : lf' 0 = (4, 253)) (h1' : lf' 1 = (0, a)) (h2' : lf' 2 = (0, (to : Int))) (h3' : lf' 3 = (0, 1)) :
    (r' = 1 ∧ (∃ i : Nat, i < nq ∧ r = (i : Int) ∧ r ≠ a) ∧ SU c (cup d 254 to r) c' d' m) ∨ (r = -1 ∧ r' = 0 ∧ FLT c' d') ∨
    (r' = 0 ∧ (∃ i : Nat, i < nq ∧ r = (i : Int) ∧ r = a) ∧ FTM c' c ∧ d' 253 18 = 5 ∧ d' 253 17 = c 88 5) := by
  have hD0 := hD
  obtain ⟨⟨a1, a2⟩, ⟨b1, b2, b3, b4⟩, a4, a5, a6, a7, -⟩ := hD0
  obtain ⟨g1, r2, k1, h⟩ := t_untwin h h0
  have go := one_pr (cc := 1) hto hE hT hD hf k1 rfl rfl h' h0' h1' h2' h3'
  rcases h with ⟨x1, h⟩ | ⟨x1, h⟩
  · obtain ⟨e1, e2⟩ := oI h
    rcases go with ⟨w1, ⟨i, w2, w3, w4⟩, w5⟩ | ⟨w1, w2, w3⟩ | ⟨w1, ⟨i, w2, w3, w4⟩, w5⟩
    · omega
    · exact Or.inr (Or.inl ⟨by omega, w2, by rw [e1]; exact w3⟩)
    · omega
  · rcases go with ⟨w1, ⟨i, w2, w3, w4, w5⟩, w6⟩ | ⟨w1, w2, w3⟩ | ⟨w1, ⟨i, w2, w3, w4⟩, w5, w6, w7⟩
    · rw [w3] at h
      have h := h (by omega) (by omega)
      rw [show (59 + 2 * (i : Int)).toNat = 59 + 2 * i by omega] at h
      have hv : g1 (59 + 2 * i) 4 = -1 := by
        rw [w6.1.o8 (59 + 2 * i) (by omega), (a7 i w2).2.2.2.1]
        exact w5 (by decide)
      rcases h with ⟨y1, h⟩ | ⟨y1, h⟩
      · obtain ⟨e1, e2⟩ := oI h
        refine Or.inl ⟨w1, ⟨i, w2, e2, by omega⟩, ?_⟩
        rw [e1, e2, ← w3]
        exact w6
      · exact absurd hv y1
    · exact absurd w1 x1
    · rw [w3] at h
      have h := h (by omega) (by omega)
      rw [show (59 + 2 * (i : Int)).toNat = 59 + 2 * i by omega] at h
      have hv : g1 (59 + 2 * i) 4 = d 254 (2991 + 6 * i + 3) := by
        rw [w5.o8 (59 + 2 * i) (by omega)]
        exact (a7 i w2).2.2.2.1
      rcases h with ⟨y1, h⟩ | ⟨y1, g7, r8, k2, h⟩
      · obtain ⟨e1, e2⟩ := oI h
        rcases w4 with w4 | ⟨-, w4⟩
        · refine Or.inr (Or.inr ⟨w1, ⟨i, w2, e2, by omega⟩, ?_, w6, w7⟩)
          rw [e1]
          exact w5
        · exact absurd (by rw [← hv]; exact y1) w4
      · obtain ⟨e1, e2⟩ := oI h
        obtain ⟨l1, l2⟩ := at_pr w6 w7 k2 rfl rfl rfl
        exact Or.inr (Or.inl ⟨e2, w1, by rw [e1]; exact l2⟩)
/-- twins -/
theorem twins_pr {np nq : Nat} {d1 : cg} {r1 : Int} (hS : SY c d m np nq) (hk : c 88 7 ≠ -1) (h : zr sv L n 52 0 lf [] c (c', some (0, r))) (h0 : lf 0 = (4, 90)) {lf2 : dlf} (h2 : zr sv L n' 185 0 lf2 [] d (d1, some (0, r1))) (h20 : lf2 0 = (4, 253)) (h21 : lf2 1 = (0, 1)) (h' : zr sv L n' 171 129 lf' [] d1 (d', some (0, r'))) (h0' : lf' 0 = (4, 253)) (h1' : lf' 1 = (0, r1)) : ST c c' d' r r' m := by
  obtain ⟨hE, hT, hD, hf⟩ := hS
  have bad : r1 = 0 → r = 0 → FLT c' d1 → ST c c' d' r r' m := by
    intro z1 z2 z3
    obtain ⟨e1, e2⟩ := end_0 h' h0' h1' z1
    exact Or.inr ⟨z2, e2, by rw [e1]; exact z3⟩
  obtain ⟨g1, k1, g2, r3, k2, h⟩ := t_takeTw h h0
  obtain ⟨d2, k3, d3, r4, k4, h2⟩ := m_twins h2 h20 h21
  obtain ⟨s1, s2, s3, s4⟩ := adv_su (c0 := c) hE hT (Or.inl (tq_kk hT hk)) k1 rfl k3 rfl
  have hq6 := hD.1.2
  have hD2 := hD.fr s1.o8 s2.om
  have hf2 : d2 253 18 = 0 := s2.om.2.2.trans hf
  have b53 : ∀ (g : cg) (j : Nat) (v : Int), cup g 254 j v 253 = g 253 := fun g j v => cup_row g _ _ (by decide)
  have b60 : ∀ (g : cg) (j : Nat) (v : Int), cup g 254 j v 260 = g 260 := fun g j v => cup_row g _ _ (by decide)
  rcases unt_pr (to := 3716) (Or.inl rfl) s3 s4 hD2 hf2 k2 rfl k4 rfl rfl rfl rfl with ⟨w1, ⟨i, w2, w3, w4⟩, u1, u2, u3, u4⟩ | ⟨w1, w2, w3⟩ | ⟨w1, ⟨i, w2, w3, w4⟩, w5⟩
  · rcases h with ⟨x1, g5, r6, k5, h⟩ | ⟨x1, h⟩
    · rcases h2 with ⟨y1, h2⟩ | ⟨y1, d5, r7, k6, h2⟩
      · omega
      · have hr3 : d3 254 3716 = r3 := by rw [u2.om.1 254 (by decide), cup_at]
        rw [hr3] at k6
        have hD3 : DR g2 d3 np nq := (hD2.spare (to := 3716) (by decide) r3).fr u1.o8 u2.om
        have hf3 : d3 253 18 = 0 := by rw [u2.om.2.2, b53]; exact hf2
        rcases unt_pr (to := 3717) (Or.inr rfl) u3 u4 hD3 hf3 k5 rfl k6 rfl rfl rfl rfl with ⟨v1, ⟨j, v2, v3, v4⟩, p1, p2, p3, p4⟩ | ⟨v1, v2, v3⟩ | ⟨v1, ⟨j, v2, v3, v4⟩, v5, v6, v7⟩
        · rcases h with ⟨z1, h⟩ | ⟨z1, h⟩
          · rcases h2 with ⟨z2, h2⟩ | ⟨z2, h2⟩
            · rcases h with ⟨z3, h⟩ | ⟨z3, h⟩
              · obtain ⟨g13, r14, k7, h⟩ := h (by omega) (by omega) (by omega) (by omega)
                have hD5 : DR g5 d5 np nq := (hD3.spare (to := 3717) (by decide) r6).fr p1.o8 p2.om
                have hf5 : d5 253 18 = 0 := by rw [p2.om.2.2, b53]; exact hf3
                have n1 : d5 254 3716 = (i : Int) := by rw [p2.om.1 254 (by decide), cup_ne (by decide), hr3, w3]
                have n2 : d5 254 3717 = (j : Int) := by rw [p2.om.1 254 (by decide), cup_at, v3]
                obtain ⟨l1, l2⟩ := oI h2
                rw [n1, n2, show (w32 (w32 (2991 + w32 (6 * (i : Int))) + 3)).toNat = 2991 + 6 * i + 3 from n6t (by omega) (by decide) (by decide), show (w32 (w32 (2991 + w32 (6 * (j : Int))) + 3)).toNat = 2991 + 6 * j + 3 from n6t (by omega) (by decide) (by decide), cup_ne (by omega), n1] at l1
                rw [w3, v3, show (59 + 2 * (i : Int)).toNat = 59 + 2 * i by omega, show (59 + 2 * (j : Int)).toNat = 59 + 2 * j by omega] at k7
                have hD6 := (hD5.set (i := i) (f := 4) w2 (by decide) (j : Int) (by decide) (fun _ => by omega)).set (i := j) (f := 4) v2 (by decide) (i : Int) (by decide) (fun _ => by omega)
                rw [show 2991 + 6 * i + 4 - 1 = 2991 + 6 * i + 3 by omega, show 2991 + 6 * j + 4 - 1 = 2991 + 6 * j + 3 by omega, ← l1] at hD6
                have q1 : cup (cup g5 (59 + 2 * i) 4 (j : Int)) (59 + 2 * j) 4 (i : Int) 88 = g5 88 := by rw [cup_row _ _ _ (by omega), cup_row _ _ _ (by omega)]
                have q2 : cup (cup g5 (59 + 2 * i) 4 (j : Int)) (59 + 2 * j) 4 (i : Int) 2 = g5 2 := by rw [cup_row _ _ _ (by omega), cup_row _ _ _ (by omega)]
                have q3 : cup (cup g5 (59 + 2 * i) 4 (j : Int)) (59 + 2 * j) 4 (i : Int) 89 = g5 89 := by rw [cup_row _ _ _ (by omega), cup_row _ _ _ (by omega)]
                have q6 : d1 253 = d5 253 := by rw [l1, b53, b53]
                have q7 : d1 260 = d5 260 := by rw [l1, b60, b60]
                obtain ⟨l3, l4⟩ := oI h
                rcases end_pr (np := np) (nq := nq) (p3.up q1 q2 q3 q6 q7) (p4.up q1 q6 q7) (by rw [q6]; exact hf5) k7 rfl h' h0' h1' (by omega) with ⟨t1, t2, t3, t4, t5, t6⟩ | ⟨t1, t2, t3⟩
                · refine Or.inl ⟨by omega, t2, ⟨np, nq, ?_⟩, ?_⟩
                  · rw [l3]
                    exact ⟨t5, t6, hD6.fr t3.o8 t4.om, by rw [t4.om.2.2, q6]; exact hf5⟩
                  · rw [l3]
                    have j1 := (adv_lt hE hT (Or.inl (tq_kk hT hk)) k1 rfl).2
                    have j2 := u1.2
                    have j3 := p1.2
                    have j4 := t3.2
                    rw [q1] at j4
                    omega
                · exact Or.inr ⟨by omega, t2, by rw [l3]; exact t3⟩
              · omega
            · omega
          · omega
        · rcases h with ⟨z1, h⟩ | ⟨z1, h⟩
          · omega
          · rcases h2 with ⟨z2, h2⟩ | ⟨z2, h2⟩
            · omega
            · obtain ⟨l1, l2⟩ := oI h
              obtain ⟨l3, l4⟩ := oI h2
              exact bad l4 l2 (by rw [l1, l3]; exact v3)
        · rcases h with ⟨z1, h⟩ | ⟨z1, h⟩
          · rcases h2 with ⟨z2, h2⟩ | ⟨z2, h2⟩
            · omega
            · obtain ⟨l3, l4⟩ := oI h2
              rcases h with ⟨z3, h⟩ | ⟨z3, g15, r16, k7, h⟩
              · omega
              · obtain ⟨l1, l2⟩ := oI h
                obtain ⟨m1, m2⟩ := at_pr v6 v7 k7 rfl rfl rfl
                exact bad l4 (by omega) (by rw [l1, l3]; exact m2)
          · omega
    · omega
  · rcases h with ⟨x1, h⟩ | ⟨x1, h⟩
    · omega
    · rcases h2 with ⟨y1, h2⟩ | ⟨y1, h2⟩
      · obtain ⟨l1, l2⟩ := oI h
        obtain ⟨l3, l4⟩ := oI h2
        exact bad l4 l2 (by rw [l1, l3]; exact w3)
      · omega
  · omega
/-- who knows whom -/
theorem knows_pr {np nq : Nat} {d1 : cg} {r1 : Int} (hS : SY c d m np nq) (hk : c 88 7 ≠ -1) (h : zr sv L n 49 0 lf [] c (c', some (0, r))) (h0 : lf 0 = (4, 90)) {lf2 : dlf} (h2 : zr sv L n' 185 0 lf2 [] d (d1, some (0, r1))) (h20 : lf2 0 = (4, 253)) (h21 : lf2 1 = (0, 0)) (h' : zr sv L n' 171 129 lf' [] d1 (d', some (0, r'))) (h0' : lf' 0 = (4, 253)) (h1' : lf' 1 = (0, r1)) : ST c c' d' r r' m := by
  obtain ⟨hE, hT, hD, hf⟩ := hS
  have bad : r1 = 0 → r = 0 → FLT c' d1 → ST c c' d' r r' m := by
    intro z1 z2 z3
    obtain ⟨e1, e2⟩ := end_0 h' h0' h1' z1
    exact Or.inr ⟨z2, e2, by rw [e1]; exact z3⟩
  obtain ⟨g1, k1, g2, r3, k2, h⟩ := t_takeKn h h0
  obtain ⟨d2, k3, d3, r4, k4, h2⟩ := m_knows h2 h20 h21
  obtain ⟨s1, s2, s3, s4⟩ := adv_su (c0 := c) hE hT (Or.inl (tq_kk hT hk)) k1 rfl k3 rfl
  have hq6 := hD.1.2
  have hD2 := hD.fr s1.o8 s2.om
  have hf2 : d2 253 18 = 0 := s2.om.2.2.trans hf
  have b53 : ∀ (g : cg) (j : Nat) (v : Int), cup g 254 j v 253 = g 253 := fun g j v => cup_row g _ _ (by decide)
  have b60 : ∀ (g : cg) (j : Nat) (v : Int), cup g 254 j v 260 = g 260 := fun g j v => cup_row g _ _ (by decide)
  rcases one_pr (to := 3716) (Or.inl rfl) s3 s4 hD2 hf2 k2 rfl rfl k4 rfl rfl rfl rfl with ⟨w1, ⟨i, w2, w3, w4, -⟩, u1, u2, u3, u4⟩ | ⟨w1, w2, w3⟩ | ⟨w1, ⟨i, w2, w3, w4⟩, w5⟩
  · rcases h with ⟨x1, g5, r6, k5, h⟩ | ⟨x1, h⟩
    · rcases h2 with ⟨y1, h2⟩ | ⟨y1, d5, r7, k6, h2⟩
      · omega
      · have hr3 : d3 254 3716 = r3 := by rw [u2.om.1 254 (by decide), cup_at]
        rw [hr3] at k6
        have hD3 : DR g2 d3 np nq := (hD2.spare (to := 3716) (by decide) r3).fr u1.o8 u2.om
        have hf3 : d3 253 18 = 0 := by rw [u2.om.2.2, b53]; exact hf2
        rcases one_pr (to := 3717) (Or.inr rfl) u3 u4 hD3 hf3 k5 rfl rfl k6 rfl rfl rfl rfl with ⟨v1, ⟨j, v2, v3, v4, -⟩, p1, p2, p3, p4⟩ | ⟨v1, v2, v3⟩ | ⟨v1, ⟨j, v2, v3, v4⟩, v5, v6, v7⟩
        · rcases h with ⟨z1, h⟩ | ⟨z1, h⟩
          · rcases h2 with ⟨z2, h2⟩ | ⟨z2, h2⟩
            · rcases h with ⟨z3, g9, k7, g10, r11, k8, h⟩ | ⟨z3, h⟩
              · have hD5 : DR g5 d5 np nq := (hD3.spare (to := 3717) (by decide) r6).fr p1.o8 p2.om
                have hf5 : d5 253 18 = 0 := by rw [p2.om.2.2, b53]; exact hf3
                have n1 : d5 254 3716 = (i : Int) := by rw [p2.om.1 254 (by decide), cup_ne (by decide), hr3, w3]
                have n2 : d5 254 3717 = (j : Int) := by rw [p2.om.1 254 (by decide), cup_at, v3]
                rw [n1, n2, show w32 (w32 (2991 + w32 (6 * (i : Int))) + 4) = ((2991 + 6 * i + 4 : Nat) : Int) by rw [n6 (by omega), n6e (by omega) (by decide) (by decide)]; rfl, show w32 (w32 (2991 + w32 (6 * (j : Int))) + 4) = ((2991 + 6 * j + 4 : Nat) : Int) by rw [n6 (by omega), n6e (by omega) (by decide) (by decide)]; rfl] at h2
                have h2 := h2 (by omega) (by omega) (by omega) (by omega)
                rw [show (((2991 + 6 * i + 4 : Nat) : Int)).toNat = 2991 + 6 * i + 4 from rfl, show (((2991 + 6 * j + 4 : Nat) : Int)).toNat = 2991 + 6 * j + 4 from rfl] at h2
                obtain ⟨l1, l2⟩ := oI h2
                rw [w3, v3] at k7
                have hb := oV (t_befr k7 rfl rfl rfl (by omega) (by omega) (by omega) (by omega))
                rw [show (59 + 2 * (i : Int)).toNat = 59 + 2 * i by omega, show (59 + 2 * (j : Int)).toNat = 59 + 2 * j by omega] at hb
                have hD6 := hD5.set (i := i) (f := 5) w2 (by decide) ((i32 (g5 (59 + 2 * i) 5) ||| i32 ((i32 1 <<< (i32 (j : Int) &&& 31)).toInt)).toInt) (by decide) (fun e => absurd e (by decide))
                rw [show 2991 + 6 * i + 5 - 1 = 2991 + 6 * i + 4 by omega] at hD6
                have hD7 := hD6.set (i := j) (f := 5) v2 (by decide) ((i32 (cup g5 (59 + 2 * i) 5 ((i32 (g5 (59 + 2 * i) 5) ||| i32 ((i32 1 <<< (i32 (j : Int) &&& 31)).toInt)).toInt) (59 + 2 * j) 5) ||| i32 ((i32 1 <<< (i32 (i : Int) &&& 31)).toInt)).toInt) (by decide) (fun e => absurd e (by decide))
                rw [show 2991 + 6 * j + 5 - 1 = 2991 + 6 * j + 4 by omega] at hD7
                have o1 : g5 (59 + 2 * i) 5 = d5 254 (2991 + 6 * i + 4) := (hD5.2.2.2.2.2.1 i w2).2.2.2.2.1
                have o2 := (hD6.2.2.2.2.2.1 j v2).2.2.2.2.1
                rw [← hb, o2, o1] at hD7
                rw [cup_ne (k' := 254) (j' := 3716) (by omega), n1] at l1
                rw [← l1] at hD7
                have q1 : g9 88 = g5 88 := by rw [hb, cup_row _ _ _ (by omega), cup_row _ _ _ (by omega)]
                have q2 : g9 2 = g5 2 := by rw [hb, cup_row _ _ _ (by omega), cup_row _ _ _ (by omega)]
                have q3 : g9 89 = g5 89 := by rw [hb, cup_row _ _ _ (by omega), cup_row _ _ _ (by omega)]
                have q6 : d1 253 = d5 253 := by rw [l1, b53, b53]
                have q7 : d1 260 = d5 260 := by rw [l1, b60, b60]
                obtain ⟨l3, l4⟩ := oI h
                rcases end_pr (np := np) (nq := nq) (p3.up q1 q2 q3 q6 q7) (p4.up q1 q6 q7) (by rw [q6]; exact hf5) k8 rfl h' h0' h1' (by omega) with ⟨t1, t2, t3, t4, t5, t6⟩ | ⟨t1, t2, t3⟩
                · refine Or.inl ⟨by omega, t2, ⟨np, nq, ?_⟩, ?_⟩
                  · rw [l3]
                    exact ⟨t5, t6, hD7.fr t3.o8 t4.om, by rw [t4.om.2.2, q6]; exact hf5⟩
                  · rw [l3]
                    have j1 := (adv_lt hE hT (Or.inl (tq_kk hT hk)) k1 rfl).2
                    have j2 := u1.2
                    have j3 := p1.2
                    have j4 := t3.2
                    rw [q1] at j4
                    omega
                · exact Or.inr ⟨by omega, t2, by rw [l3]; exact t3⟩
              · omega
            · omega
          · omega
        · rcases h with ⟨z1, h⟩ | ⟨z1, h⟩
          · omega
          · rcases h2 with ⟨z2, h2⟩ | ⟨z2, h2⟩
            · omega
            · obtain ⟨l1, l2⟩ := oI h
              obtain ⟨l3, l4⟩ := oI h2
              exact bad l4 l2 (by rw [l1, l3]; exact v3)
        · rcases v4 with v4 | ⟨v4, -⟩
          · rcases h with ⟨z1, h⟩ | ⟨z1, h⟩
            · rcases h2 with ⟨z2, h2⟩ | ⟨z2, h2⟩
              · omega
              · obtain ⟨l3, l4⟩ := oI h2
                rcases h with ⟨z3, h⟩ | ⟨z3, g15, r16, k7, h⟩
                · omega
                · obtain ⟨l1, l2⟩ := oI h
                  obtain ⟨m1, m2⟩ := at_pr v6 v7 k7 rfl rfl rfl
                  exact bad l4 (by omega) (by rw [l1, l3]; exact m2)
            · omega
          · exact absurd rfl v4
    · omega
  · rcases h with ⟨x1, h⟩ | ⟨x1, h⟩
    · omega
    · rcases h2 with ⟨y1, h2⟩ | ⟨y1, h2⟩
      · obtain ⟨l1, l2⟩ := oI h
        obtain ⟨l3, l4⟩ := oI h2
        exact bad l4 l2 (by rw [l1, l3]; exact w3)
      · omega
  · rcases w4 with w4 | ⟨w4, -⟩
    · omega
    · exact absurd rfl w4
end Stm2
