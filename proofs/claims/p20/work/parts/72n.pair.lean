/-! what is passed, on both sides -/
def FLT (c d : cg) : Prop := c 88 10 = d 253 18 ∧ 0 < c 88 10 ∧ c 88 11 = d 253 17
def FTM (c' c : cg) : Prop := FT c' c ∧ c 88 5 ≤ c' 88 5
def SU (c d c' d' : cg) (m : Nat) : Prop := FTM c' c ∧ FM d' d ∧ TE c' d' m ∧ TQ c' d' m
theorem TE.up {c d c' d' : cg} {m : Nat} (h : TE c d m) (h1 : c' 88 = c 88) (h2 : c' 2 = c 2) (h3 : c' 89 = c 89) (h4 : d' 253 = d 253) (h5 : d' 260 = d 260) : TE c' d' m := by
  unfold TE MBY at *
  rw [h1, h2, h3, h4, h5]
  exact h
theorem TQ.up {c d c' d' : cg} {m : Nat} (h : TQ c d m) (h1 : c' 88 = c 88) (h4 : d' 253 = d 253) (h5 : d' 260 = d 260) : TQ c' d' m := by
  have hb : mb d' = mb d := by
    funext j
    unfold mb
    rw [h5]
  unfold TQ at *
  rw [h1, h4, hb]
  exact h
section Pair
variable {sv : Nat → Int32} {L : Nat} {n n' : Nat} {lf lf' : dlf} {c d c' d' : cg} {m : Nat} {r r' : Int}
theorem tq_bad (hT : TQ c d m) : c 88 4 = 6 ↔ d 253 12 = 1 := by
  obtain ⟨p, hp, hp', hpm, hT⟩ := hT
  rcases hT with ⟨a1, a2, a3⟩ | ⟨q, a1, a2, a3, a4, a5, a6, a7⟩ | ⟨q, a1, a2, a3, a4, a5, a6, a7⟩ | ⟨q, a1, a2, a3, a4, a5, a6, a7⟩ | ⟨a1, a2, a3⟩
  · omega
  · rcases a7 with ⟨y1, y2, y3⟩ | ⟨y1, y2, ⟨i, y3, y4, y5, y6⟩ | ⟨y3, y4, y5⟩⟩ <;> omega
  all_goals omega
theorem tq_pos (hT : TQ c d m) (hk : c 88 4 = 1 ∨ c 88 4 = 2 ∨ c 88 4 = 4 ∨ c 88 4 = 5) : ∃ q : Nat, q ≤ m ∧ c 88 3 = (q : Int) ∧ d 253 14 = (q : Int) := by
  obtain ⟨p, hp, hp', hpm, hT⟩ := hT
  rcases hT with ⟨a1, a2, a3⟩ | ⟨q, a1, a2, a3, a4, a5, a6, a7⟩ | ⟨q, a1, a2, a3, a4, a5, a6, a7⟩ | ⟨q, a1, a2, a3, a4, a5, a6, a7⟩ | ⟨a1, a2, a3⟩
  · omega
  · exact ⟨q, a2, a3, a4⟩
  · exact ⟨q, a1.2, a2, a3⟩
  · exact ⟨q, a1.2, a2, a3⟩
  · omega
theorem tq_lt (hT : TQ c d m) (hk : c 88 4 = 1 ∨ c 88 4 = 2 ∨ c 88 4 = 4 ∨ c 88 4 = 5) : c 88 5 < c 88 3 := by
  obtain ⟨p, hp, hp', hpm, hT⟩ := hT
  rcases hT with ⟨a1, a2, a3⟩ | ⟨q, a1, a2, a3, a4⟩ | ⟨q, a1, a2, a3⟩ | ⟨q, a1, a2, a3⟩ | ⟨a1, a2, a3⟩ <;> omega
theorem adv_lt (hE : TE c d m) (hT : TQ c d m) (hk : c 88 4 = 1 ∨ c 88 4 = 2 ∨ c 88 4 = 4 ∨ c 88 4 = 5) (h : zr sv L n 37 0 lf [] c (c', none)) (h0 : lf 0 = (4, 88)) : FT c' c ∧ c 88 5 < c' 88 5 := by
  obtain ⟨q, q1, q2, q3⟩ := tq_pos hT hk
  have hl := tq_lt hT hk
  obtain ⟨h1, h2, -⟩ := hE
  obtain ⟨f1, p, hR, hp, -⟩ := adv_ok h0 q2 h2 q1 h1 h
  dsimp only at f1 hp
  have := hR.1
  exact ⟨f1, by omega⟩
theorem tq_kk (hT : TQ c d m) (hk : c 88 7 ≠ -1) : c 88 4 = 1 := by
  obtain ⟨p, hp, hp', hpm, hT⟩ := hT
  rcases hT with ⟨a1, a2, a3⟩ | ⟨q, a1, a2, a3, a4, a5, a6, a7⟩ | ⟨q, a1, a2, a3, a4, a5, a6, a7⟩ | ⟨q, a1, a2, a3, a4, a5, a6, a7⟩ | ⟨a1, a2, a3⟩
  · exact absurd a3 hk
  · rcases a7 with ⟨y1, y2, y3⟩ | ⟨y1, y2, ⟨i, y3, y4, y5, y6⟩ | ⟨y3, y4, y5⟩⟩
    · exact absurd y3 hk
    · exact y6
    · exact absurd y4 hk
  · exact absurd a7 hk
  · exact absurd a7 hk
  · exact absurd a3 hk
theorem tq_kinds (hT : TQ c d m) : (c 88 4 = 0 ↔ d 253 12 = 0) ∧ (c 88 4 = 4 ↔ d 253 12 = 3) ∧ (c 88 4 = 4 → c 88 8 = d 253 15) ∧ (c 88 4 = 5 ↔ d 253 12 = 4) ∧ (c 88 4 = 5 → c 88 9 = d 253 15) := by
  obtain ⟨p, hp, hp', hpm, hT⟩ := hT
  rcases hT with ⟨a1, a2, a3⟩ | ⟨q, a1, a2, a3, a4, a5, a6, a7⟩ | ⟨q, a1, a2, a3, a4, a5, a6, a7⟩ | ⟨q, a1, a2, a3, a4, a5, a6, a7⟩ | ⟨a1, a2, a3⟩
  · omega
  · rcases a7 with ⟨y1, y2, y3⟩ | ⟨y1, y2, ⟨i, y3, y4, y5, y6⟩ | ⟨y3, y4, y5⟩⟩ <;> omega
  all_goals omega
theorem tq_st (hT : TQ c d m) : c 88 5 = d 253 13 := by
  obtain ⟨p, hp, hp', -⟩ := hT
  rw [hp, hp']
/-- a fault -/
theorem fail_pr {k : Int} (hT : TQ c d m) (hf : d 253 18 = 0) (hk : 0 < k) (h : zr sv L n 39 0 lf [] c (c', some (0, r))) (h0 : lf 0 = (4, 88)) (h1 : lf 1 = (0, k)) (h' : zr sv L n' 173 0 lf' [] d (d', some (0, r'))) (h0' : lf' 0 = (4, 253)) (h1' : lf' 1 = (0, k)) : r = 0 ∧ r' = 0 ∧ FLT c' d' := by
  have hb := tq_bad hT
  have hs := tq_st hT
  rcases t_fails h' h0' h1' with ⟨x1, x2⟩ | ⟨x1, ⟨x2, x3⟩ | ⟨x2, x3⟩⟩
  · exact absurd hf x1
  · obtain ⟨e1, e2⟩ := oI x3
    rcases t_fail h h0 h1 with ⟨y1, y2⟩ | ⟨y1, y2⟩
    · obtain ⟨e3, e4⟩ := oI y2
      refine ⟨e4, e2, ?_, ?_, ?_⟩
      · rw [e1, e3, cup_ne (by decide), cup_at, cup_ne (by decide), cup_at]
      · rw [e3, cup_ne (by decide), cup_at]; exact hk
      · rw [e1, e3, cup_at, cup_at]; exact hs
    · exact absurd (hb.mp y1) x2
  · obtain ⟨e1, e2⟩ := oI x3
    rcases t_fail h h0 h1 with ⟨y1, y2⟩ | ⟨y1, y2⟩
    · exact absurd (hb.mpr x2) y1
    · obtain ⟨e3, e4⟩ := oI y2
      refine ⟨e4, e2, ?_, ?_, ?_⟩
      · rw [e1, e3, cup_ne (by decide), cup_at, cup_ne (by decide), cup_at]
      · rw [e3, cup_ne (by decide), cup_at]; decide
      · rw [e1, e3, cup_at, cup_at]; exact hs
theorem kw6 : ∀ i, i < 25 → ∀ j, j < 25 → km i = km j → i = j := by decide +kernel
theorem adv_su {c0 : cg} (hE : TE c d m) (hT : TQ c d m) (hk : c 88 4 = 1 ∨ c 88 4 = 2 ∨ c 88 4 = 4 ∨ c 88 4 = 5) (h : zr sv L n 37 0 lf [] c (c', none)) (h0 : lf 0 = (4, 88)) (h' : zr sv L n' 166 0 lf' [] d (d', none)) (h0' : lf' 0 = (4, 253)) : SU c d c' d' m := by
  obtain ⟨q, q1, q2, q3⟩ := tq_pos hT hk
  obtain ⟨x1, x2, x3, x4⟩ := adv_ahd hE q2 q3 q1 h h0 h' h0'
  exact ⟨⟨x1, Int.le_of_lt (adv_lt hE hT hk h h0).2⟩, x2, x3, x4⟩
/-- pass(key) and wantWord(KEYS, key) -/
theorem pass_pr {i : Nat} (hi : i < 25) (hE : TE c d m) (hT : TQ c d m) (hf : d 253 18 = 0) (h : zr sv L n 46 0 lf [] c (c', some (0, r))) (h0 : lf 0 = (4, 88)) (h1 : lf 1 = (0, (i : Int))) (h' : zr sv L n' 184 0 lf' [] d (d', some (0, r'))) (h0' : lf' 0 = (4, 253)) (h1' : lf' 1 = (6, 3)) (h2' : lf' 2 = (0, (km i : Int))) : (r = 1 ∧ r' = 1 ∧ SU c d c' d' m) ∨ (r = 0 ∧ r' = 0 ∧ FLT c' d') := by
  obtain ⟨g1, r2, k1, h'⟩ := t_wantWord h' h0' h1' h2'
  obtain ⟨e1, e2⟩ := tq_key hE hT k1 rfl rfl
  rw [e1] at h'
  have hkey : c 88 7 = (i : Int) ↔ r2 = (km i : Int) := by
    rcases e2 with ⟨z1, z2⟩ | ⟨j, z1, z2, z3⟩
    · omega
    · constructor
      · intro e
        have : j = i := by omega
        rw [z3, this]
      · intro e
        have := kw6 j z1 i hi (by omega)
        rw [z2, this]
  rcases t_pass h h0 h1 with ⟨x1, g2, k2, x2⟩ | ⟨x1, g3, r4, k2, x2⟩
  · obtain ⟨e3, e4⟩ := oI x2
    rcases h' with ⟨y1, g4, k3, y2⟩ | ⟨y1, y2⟩
    · obtain ⟨e5, e6⟩ := oI y2
      refine Or.inl ⟨e4, e6, ?_⟩
      rw [e3, e5]
      exact adv_su (c0 := c) hE hT (Or.inl (tq_kk hT (by omega))) k2 rfl k3 rfl
    · exact absurd (hkey.mp x1) y1
  · obtain ⟨e3, e4⟩ := oI x2
    rcases h' with ⟨y1, y2⟩ | ⟨y1, g5, r6, k3, y2⟩
    · exact absurd (hkey.mpr y1) x1
    · obtain ⟨e5, e6⟩ := oI y2
      obtain ⟨z1, z2, z3⟩ := fail_pr hT hf (by decide) k2 rfl rfl k3 rfl rfl
      refine Or.inr ⟨by rw [e4, z1], by rw [e6, z2], ?_⟩
      rw [e3, e5]
      exact z3
/-- passIfThere(key) and isThere(key) -/
theorem thr_pr {i : Nat} (hi : i < 25) (hE : TE c d m) (hT : TQ c d m) (h : zr sv L n 57 0 lf [] c (c', some (0, r))) (h0 : lf 0 = (4, 88)) (h1 : lf 1 = (0, (i : Int))) (h' : zr sv L n' 189 0 lf' [] d (d', some (0, r'))) (h0' : lf' 0 = (4, 253)) (h1' : lf' 1 = (0, (km i : Int))) : (r = 1 ∧ r' = 1 ∧ SU c d c' d' m) ∨ (r = 0 ∧ r' = 0 ∧ c' = c ∧ d' = d) := by
  obtain ⟨g1, r2, k1, h'⟩ := t_isThere h' h0' h1'
  obtain ⟨e1, e2⟩ := tq_key hE hT k1 rfl rfl
  rw [e1] at h'
  have hkey : c 88 7 = (i : Int) ↔ r2 = (km i : Int) := by
    rcases e2 with ⟨z1, z2⟩ | ⟨j, z1, z2, z3⟩
    · omega
    · constructor
      · intro e
        have : j = i := by omega
        rw [z3, this]
      · intro e
        have := kw6 j z1 i hi (by omega)
        rw [z2, this]
  rcases t_passIf h h0 h1 with ⟨x1, g2, k2, x2⟩ | ⟨x1, x2⟩
  · obtain ⟨e3, e4⟩ := oI x2
    rcases h' with ⟨y1, g4, k3, y2⟩ | ⟨y1, y2⟩
    · obtain ⟨e5, e6⟩ := oI y2
      refine Or.inl ⟨e4, e6, ?_⟩
      rw [e3, e5]
      exact adv_su (c0 := c) hE hT (Or.inl (tq_kk hT (by omega))) k2 rfl k3 rfl
    · exact absurd (hkey.mp x1) y1
  · obtain ⟨e3, e4⟩ := oI x2
    rcases h' with ⟨y1, y2⟩ | ⟨y1, y2⟩
    · exact absurd (hkey.mpr y1) x1
    · obtain ⟨e5, e6⟩ := oI y2
      exact Or.inr ⟨e4, e6, e3, e5⟩
/-- passStop() and wantSign(';') -/
theorem stop_pr (hE : TE c d m) (hT : TQ c d m) (hf : d 253 18 = 0) (h : zr sv L n 42 0 lf [] c (c', some (0, r))) (h0 : lf 0 = (4, 88)) (h' : zr sv L n' 176 0 lf' [] d (d', some (0, r'))) (h0' : lf' 0 = (4, 253)) (h1' : lf' 1 = (0, 59)) : (r = 1 ∧ r' = 1 ∧ SU c d c' d' m) ∨ (r = 0 ∧ r' = 0 ∧ FLT c' d') := by
  obtain ⟨t1, t2, t3, t4, t5⟩ := tq_kinds hT
  obtain ⟨g1, r2, k1, h'⟩ := t_wantSign h' h0' h1'
  have hsg : g1 = d ∧ ((r2 = 1 ∧ d 253 12 = 4 ∧ d 253 15 = 59) ∨ (r2 = 0 ∧ ¬ (d 253 12 = 4 ∧ d 253 15 = 59))) := by
    rcases t_isSign k1 rfl rfl with ⟨x1, x2⟩ | ⟨x1, ⟨x2, x3⟩ | ⟨x2, x3⟩⟩
    · obtain ⟨e1, e2⟩ := oI x2
      exact ⟨e1, Or.inr ⟨e2, fun e => x1 e.1⟩⟩
    · obtain ⟨e1, e2⟩ := oI x3
      exact ⟨e1, Or.inr ⟨e2, fun e => x2 e.2⟩⟩
    · obtain ⟨e1, e2⟩ := oI x3
      exact ⟨e1, Or.inl ⟨e2, x1, x2⟩⟩
  obtain ⟨e1, e2⟩ := hsg
  rw [e1] at h'
  have no : ¬ (c 88 4 = 5 ∧ c 88 9 = 59) → ∀ {g3 : cg} {r4 : Int}, zr sv L n 39 0 (darg 0 [(4, 88), (0, 2)]) [] c (g3, some (0, r4)) → c' = g3 → r = r4 → (r = 1 ∧ r' = 1 ∧ SU c d c' d' m) ∨ (r = 0 ∧ r' = 0 ∧ FLT c' d') := by
    intro hn g3 r4 k2 e3 e4
    rcases h' with ⟨y1, y2⟩ | ⟨y1, g5, r6, k3, y2⟩
    · exfalso
      rcases e2 with ⟨z1, z2, z3⟩ | ⟨z1, z2⟩
      · have h5 := t4.mpr z2
        exact hn ⟨h5, by rw [t5 h5]; exact z3⟩
      · exact y1 z1
    · obtain ⟨e5, e6⟩ := oI y2
      obtain ⟨z1, z2, z3⟩ := fail_pr hT hf (by decide) k2 rfl rfl k3 rfl rfl
      refine Or.inr ⟨by rw [e4, z1], by rw [e6, z2], ?_⟩
      rw [e3, e5]
      exact z3
  rcases t_passStop h h0 with ⟨x1, g3, r4, k2, x2⟩ | ⟨x1, ⟨x3, g2, k2, x2⟩ | ⟨x3, g3, r4, k2, x2⟩⟩
  · obtain ⟨e3, e4⟩ := oI x2
    exact no (fun e => x1 e.1) k2 e3 e4
  · obtain ⟨e3, e4⟩ := oI x2
    rcases h' with ⟨y1, g4, k3, y2⟩ | ⟨y1, y2⟩
    · obtain ⟨e5, e6⟩ := oI y2
      refine Or.inl ⟨e4, e6, ?_⟩
      rw [e3, e5]
      exact adv_su (c0 := c) hE hT (Or.inr (Or.inr (Or.inr x1))) k2 rfl k3 rfl
    · exfalso
      rcases e2 with ⟨z1, z2, z3⟩ | ⟨z1, z2⟩
      · omega
      · exact z2 ⟨t4.mp x1, by rw [← t5 x1]; exact x3⟩
  · obtain ⟨e3, e4⟩ := oI x2
    exact no (fun e => x3 e.2) k2 e3 e4
/-- passNumber(low, high) and number(to, least, most) -/
theorem num_pr {lo hi to : Int} (hlo : 0 ≤ lo) (hE : TE c d m) (hT : TQ c d m) (hf : d 253 18 = 0) (h : zr sv L n 41 0 lf [] c (c', some (0, r))) (h0 : lf 0 = (4, 88)) (h1 : lf 1 = (0, lo)) (h2 : lf 2 = (0, hi)) (h' : zr sv L n' 175 0 lf' [] d (d', some (0, r'))) (h0' : lf' 0 = (4, 253)) (h1' : lf' 1 = (0, to)) (h2' : lf' 2 = (0, lo)) (h3' : lf' 3 = (0, hi)) : (r' = 1 ∧ lo ≤ r ∧ r ≤ hi ∧ SU c (cup d 254 to.toNat r) c' d' m) ∨ (r = -1 ∧ r' = 0 ∧ FLT c' d') := by
  obtain ⟨t1, t2, t3, t4, t5⟩ := tq_kinds hT
  have h' := t_number h' h0' h1' h2' h3'
  have no2 : c 88 4 ≠ 4 → ∀ {g3 : cg} {r4 : Int}, zr sv L n 39 0 (darg 0 [(4, 88), (0, 2)]) [] c (g3, some (0, r4)) → c' = g3 → r = -1 → (r' = 1 ∧ lo ≤ r ∧ r ≤ hi ∧ SU c (cup d 254 to.toNat r) c' d' m) ∨ (r = -1 ∧ r' = 0 ∧ FLT c' d') := by
    intro hn g3 r4 k2 e3 e4
    rcases h' with ⟨y1, y2⟩ | ⟨y1, g5, r6, k3, y2⟩
    · exact absurd (t2.mpr y1) hn
    · obtain ⟨e5, e6⟩ := oI y2
      obtain ⟨z1, z2, z3⟩ := fail_pr hT hf (by decide) k2 rfl rfl k3 rfl rfl
      refine Or.inr ⟨e4, by rw [e6, z2], ?_⟩
      rw [e3, e5]
      exact z3
  have no4 : c 88 4 = 4 → (c 88 8 < lo ∨ hi < c 88 8) → ∀ {g3 : cg} {r4 : Int}, zr sv L n 39 0 (darg 0 [(4, 88), (0, 4)]) [] c (g3, some (0, r4)) → c' = g3 → r = -1 → (r' = 1 ∧ lo ≤ r ∧ r ≤ hi ∧ SU c (cup d 254 to.toNat r) c' d' m) ∨ (r = -1 ∧ r' = 0 ∧ FLT c' d') := by
    intro hn hv g3 r4 k2 e3 e4
    have e8 := t3 hn
    have fin : ∀ {g5 : cg} {r6 : Int}, zr sv L n' 173 0 (darg 0 [(4, 253), (0, 4)]) [] d (g5, some (0, r6)) → d' = g5 → r' = r6 → (r' = 1 ∧ lo ≤ r ∧ r ≤ hi ∧ SU c (cup d 254 to.toNat r) c' d' m) ∨ (r = -1 ∧ r' = 0 ∧ FLT c' d') := by
      intro g5 r6 k3 e5 e6
      obtain ⟨z1, z2, z3⟩ := fail_pr hT hf (by decide) k2 rfl rfl k3 rfl rfl
      refine Or.inr ⟨e4, by rw [e6, z2], ?_⟩
      rw [e3, e5]
      exact z3
    rcases h' with ⟨y1, ⟨y2, g5, r6, k3, y3⟩ | ⟨y2, ⟨y3, y4⟩ | ⟨y3, g5, r6, k3, y4⟩⟩⟩ | ⟨y1, y2⟩
    · obtain ⟨e5, e6⟩ := oI y3
      exact fin k3 e5 e6
    · omega
    · obtain ⟨e5, e6⟩ := oI y4
      exact fin k3 e5 e6
    · exact absurd (t2.mp hn) y1
  rcases t_passNum h h0 h1 h2 with ⟨x1, g3, r4, k2, x2⟩ | ⟨x1, ⟨x3, g3, r4, k2, x2⟩ | ⟨x3, ⟨x4, g2, k2, x2⟩ | ⟨x4, g3, r4, k2, x2⟩⟩⟩
  · obtain ⟨e3, e4⟩ := oI x2
    exact no2 x1 k2 e3 e4
  · obtain ⟨e3, e4⟩ := oI x2
    exact no4 x1 (Or.inl x3) k2 e3 e4
  · obtain ⟨e3, e4⟩ := oI x2
    have e8 := t3 x1
    rcases h' with ⟨y1, ⟨y2, g5, r6, k3, y3⟩ | ⟨y2, ⟨y3, g4, k3, y4⟩ | ⟨y3, g5, r6, k3, y4⟩⟩⟩ | ⟨y1, y2⟩
    · omega
    · obtain ⟨e5, e6⟩ := oI y4
      refine Or.inl ⟨e6, by omega, by omega, ?_⟩
      rw [e3, e5, e4, e8]
      have d3 : cup d 254 to.toNat (d 253 15) 253 = d 253 := cup_row d _ _ (by decide)
      have d6 : cup d 254 to.toNat (d 253 15) 260 = d 260 := cup_row d _ _ (by decide)
      exact adv_su (c0 := c) (hE.up rfl rfl rfl d3 d6) (hT.up rfl d3 d6) (Or.inr (Or.inr (Or.inl x1))) k2 rfl k3 rfl
    · omega
    · exact absurd (t2.mp x1) y1
  · obtain ⟨e3, e4⟩ := oI x2
    exact no4 x1 (Or.inr x4) k2 e3 e4
end Pair
