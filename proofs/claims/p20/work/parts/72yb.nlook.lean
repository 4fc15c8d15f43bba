/-! names looked up in the court that is there, on both sides -/
def NPn (c d : cg) (n : Nat) : Prop := ∀ i : Nat, i < n → NR (c 5 i) (d 255 (0 + i))
def NQn (c d : cg) (n : Nat) : Prop := ∀ i : Nat, i < n → NR (c (17 + 2 * i) 0) (d 255 (5 + i))
section LookN
variable {sv : Nat → Int32} {L : Nat} {o : cg × Option cv}
theorem nplc_l {c : cg} {k : Nat} {w : Int} (hn : c 3 0 = (k : Int)) (h5 : k ≤ 5) : ∀ (n : Nat) {lf : dlf} {i : Nat}, lf 0 = (4, 3) → lf 1 = (2, w) → lf 3 = (0, (i : Int)) → i ≤ k → (∀ j, j < i → c 5 j ≠ w) → zr sv L n 48 2 lf [] c o → ∃ r, FI (c 5) k w r ∧ o = (c, some (0, r))
  | 0, _, _, _, _, _, _, _, h => (zr_0 h).elim
  | n + 1, lf, i, h0, h1, h3, hi, hj, h => by
    rcases t_nPlc2 h h0 h1 h3 with ⟨hc, h⟩ | ⟨hc, h⟩
    · exact ⟨-1, Or.inr ⟨fun j hjk => hj j (by omega), rfl⟩, h⟩
    · rw [hn] at hc
      have h := h (by omega) (by omega)
      rw [show ((i : Int)).toNat = i from rfl, w32_id (z := (i : Int) + 1) (by omega) (by omega)] at h
      rcases h with ⟨hx, lf', a0, a1, a3, h⟩ | ⟨hx, h⟩
      · refine nplc_l hn h5 n (i := i + 1) a0 a1 (by rw [a3]; rfl) (by omega) (fun j hj' => ?_) h
        by_cases e : j = i
        · intro z
          exact hx (csgn_z.mpr (by rw [← e, z]; omega))
        · exact hj j (by omega)
      · have hx := csgn_z.mp hx
        exact ⟨(i : Int), Or.inl ⟨i, by omega, by omega, hj, rfl⟩, h⟩
theorem nper_l {c : cg} {k : Nat} {w : Int} (hn : c 3 3 = (k : Int)) (h5 : k ≤ 6) : ∀ (n : Nat) {lf : dlf} {i : Nat}, lf 0 = (4, 3) → lf 1 = (2, w) → lf 3 = (0, (i : Int)) → i ≤ k → (∀ j : Nat, j < i → c (17 + 2 * j) 0 ≠ w) → zr sv L n 45 2 lf [] c o → ∃ r, FI (fun i => c (17 + 2 * i) 0) k w r ∧ o = (c, some (0, r))
  | 0, _, _, _, _, _, _, _, h => (zr_0 h).elim
  | n + 1, lf, i, h0, h1, h3, hi, hj, h => by
    rcases t_nPer2 h h0 h1 h3 with ⟨hc, h⟩ | ⟨hc, h⟩
    · exact ⟨-1, Or.inr ⟨fun j hjk => hj j (by omega), rfl⟩, h⟩
    · rw [hn] at hc
      have h := h (by omega) (by omega)
      rw [show ((17 : Int) + 2 * (i : Int)).toNat = 17 + 2 * i by omega, w32_id (z := (i : Int) + 1) (by omega) (by omega)] at h
      rcases h with ⟨hx, lf', a0, a1, a3, h⟩ | ⟨hx, h⟩
      · refine nper_l hn h5 n (i := i + 1) a0 a1 (by rw [a3]; rfl) (by omega) (fun j hj' => ?_) h
        by_cases e : j = i
        · intro z
          exact hx (csgn_z.mpr (by rw [← e, z]; omega))
        · exact hj j (by omega)
      · have hx := csgn_z.mp hx
        exact ⟨(i : Int), Or.inl ⟨i, by omega, by show c (17 + 2 * i) 0 = w; omega, hj, rfl⟩, h⟩
theorem nplc_ok {n : Nat} {lf : dlf} {c c1 : cg} {k : Nat} {w r : Int} (h : zr sv L n 48 0 lf [] c (c1, some (0, r))) (h0 : lf 0 = (4, 3)) (h1 : lf 1 = (2, w)) (hn : c 3 0 = (k : Int)) (h5 : k ≤ 5) : c1 = c ∧ FI (c 5) k w r := by
  obtain ⟨lf', a0, a1, a3, h⟩ := t_nPlc0 h h0 h1
  obtain ⟨r', e1, e2⟩ := nplc_l hn h5 n (i := 0) a0 a1 a3 (Nat.zero_le _) (fun j hj => absurd hj (Nat.not_lt_zero j)) h
  obtain ⟨e3, e4⟩ := oI e2
  exact ⟨e3, by rw [e4]; exact e1⟩
theorem nper_ok {n : Nat} {lf : dlf} {c c1 : cg} {k : Nat} {w r : Int} (h : zr sv L n 45 0 lf [] c (c1, some (0, r))) (h0 : lf 0 = (4, 3)) (h1 : lf 1 = (2, w)) (hn : c 3 3 = (k : Int)) (h5 : k ≤ 6) : c1 = c ∧ FI (fun i => c (17 + 2 * i) 0) k w r := by
  obtain ⟨lf', a0, a1, a3, h⟩ := t_nPer0 h h0 h1
  obtain ⟨r', e1, e2⟩ := nper_l hn h5 n (i := 0) a0 a1 a3 (Nat.zero_le _) (fun j hj => absurd hj (Nat.not_lt_zero j)) h
  obtain ⟨e3, e4⟩ := oI e2
  exact ⟨e3, by rw [e4]; exact e1⟩
variable {n n' : Nat} {lf lf' : dlf} {c d c' d' : cg} {m : Nat} {r r' : Int}
/-- passPlace(draft) and oldOne of a place -/
theorem wplc_pr {k to : Nat} (hk : k ≤ 5) (hn : c 3 0 = (k : Int)) (hN : NPn c d k) (hto : to < 5208) (hE : TE c d m) (hT : TQ c d m) (hf : d 253 18 = 0) (h : zr sv L n 47 0 lf [] c (c', some (0, r))) (h0 : lf 0 = (4, 88)) (h1 : lf 1 = (4, 3)) (h' : zr sv L n' 180 0 lf' [] d (d', some (0, r'))) (h0' : lf' 0 = (4, 253)) (h1' : lf' 1 = (0, 0)) (h2' : lf' 2 = (0, (k : Int))) (h3' : lf' 3 = (0, (to : Int))) : (r' = 1 ∧ (∃ i : Nat, i < k ∧ r = (i : Int)) ∧ SU c (cup d 254 to r) c' d' m) ∨ (r = -1 ∧ r' = 0 ∧ FLT c' d') := by
  obtain ⟨g1, r2, k1, h'⟩ := m_old h' h0' h1' h2' h3'
  obtain ⟨e1, e2⟩ := tq_name hE hT k1 rfl rfl
  rw [e1] at h'
  rw [show ((to : Int)).toNat = to from rfl] at h'
  rcases t_rPlc h h0 h1 with ⟨x1, lf2, b0, b2, h⟩ | ⟨x1, g3, r4, k2, lf2, b0, b2, h⟩
  · have hr2 : r2 = 0 := by
      rcases e2 with ⟨z1, z2⟩ | ⟨z1, z2⟩
      · exact absurd z1 x1
      · exact z2
    rcases h' with ⟨y1, y2⟩ | ⟨y1, g12, r13, k3, y2⟩
    · exact absurd hr2 y1
    · obtain ⟨e5, e6⟩ := oI y2
      rcases t_rPlc21 h b0 b2 with ⟨w1, w2⟩ | ⟨w1, ⟨w2, g4, r5, k4, w3⟩ | ⟨w2, w3⟩⟩
      · exact absurd rfl w1
      · obtain ⟨e3, e4⟩ := oI w3
        obtain ⟨z1, z2, z3⟩ := fail_pr hT hf (by decide) k4 rfl rfl k3 rfl rfl
        refine Or.inr ⟨e4, by rw [e6, z2], ?_⟩
        rw [e3, e5]
        exact z3
      · exact absurd w2 x1
  · have hr2 : r2 = 1 := by
      rcases e2 with ⟨z1, z2⟩ | ⟨z1, z2⟩
      · exact z2
      · exact absurd x1 z1
    obtain ⟨V, hV, hNR⟩ := tq_nh (sv := sv) (L := L) hE hT x1
    obtain ⟨e3, e4⟩ := nplc_ok k2 rfl rfl hn hk
    rw [e3] at h
    rcases h' with ⟨y1, g4, r5, k3, y2⟩ | ⟨y1, y2⟩
    · obtain ⟨e5, e6⟩ := fnd_ok (b := 0) (k := k) k3 rfl rfl rfl hV (by omega)
      rw [e5] at y2
      obtain ⟨e7, e8⟩ := FI_eq e4 e6 (fun i hi => NR_eq (hN i hi) hNR)
      have y2 := y2 (by omega) (by omega)
      have dr : ∀ v, cup d 254 to v 253 = d 253 := fun v => cup_row d _ _ (by decide)
      have ds : ∀ v, cup d 254 to v 260 = d 260 := fun v => cup_row d _ _ (by decide)
      rcases y2 with ⟨u1, g9, k4, u2⟩ | ⟨u1, g10, r11, k4, u2⟩
      · obtain ⟨e9, e10⟩ := oI u2
        rcases t_rPlc21 h b0 b2 with ⟨w1, g2, k5, w2⟩ | ⟨w1, w2⟩
        · obtain ⟨e11, e12⟩ := oI w2
          refine Or.inl ⟨e10, ?_, ?_⟩
          · rcases e8 with z | ⟨i, z1, z2⟩
            · exact absurd z w1
            · exact ⟨i, z1, by rw [e12, z2]⟩
          · rw [e11, e9, e12, e7]
            exact adv_su (c0 := c) (hE.up rfl rfl rfl (dr _) (ds _)) (hT.up rfl (dr _) (ds _)) (Or.inr (Or.inl x1)) k5 rfl k4 rfl
        · exact absurd (by rw [← e7]; exact w1) u1
      · obtain ⟨e9, e10⟩ := oI u2
        rcases t_rPlc21 h b0 b2 with ⟨w1, w2⟩ | ⟨w1, ⟨w2, w3⟩ | ⟨w2, g6, r7, k5, w3⟩⟩
        · exact absurd (by rw [e7]; exact u1) w1
        · exact absurd x1 w2
        · obtain ⟨e11, e12⟩ := oI w3
          obtain ⟨z1, z2, z3⟩ := fail_pr (hT.up rfl (dr r5) (ds r5)) (by rw [dr]; exact hf) (by decide) k5 rfl rfl k4 rfl rfl
          refine Or.inr ⟨by rw [e12]; exact w1, by rw [e10, z2], ?_⟩
          rw [e11, e9]
          exact z3
    · rw [hr2] at y1
      exact absurd y1 (by decide)
/-- passPerson(draft) and oldOne of a person -/
theorem wper_pr {k to : Nat} (hk : k ≤ 6) (hn : c 3 3 = (k : Int)) (hN : NQn c d k) (hto : to < 5208) (hE : TE c d m) (hT : TQ c d m) (hf : d 253 18 = 0) (h : zr sv L n 44 0 lf [] c (c', some (0, r))) (h0 : lf 0 = (4, 88)) (h1 : lf 1 = (4, 3)) (h' : zr sv L n' 180 0 lf' [] d (d', some (0, r'))) (h0' : lf' 0 = (4, 253)) (h1' : lf' 1 = (0, 5)) (h2' : lf' 2 = (0, (k : Int))) (h3' : lf' 3 = (0, (to : Int))) : (r' = 1 ∧ (∃ i : Nat, i < k ∧ r = (i : Int)) ∧ SU c (cup d 254 to r) c' d' m) ∨ (r = -1 ∧ r' = 0 ∧ FLT c' d') := by
  obtain ⟨g1, r2, k1, h'⟩ := m_old h' h0' h1' h2' h3'
  obtain ⟨e1, e2⟩ := tq_name hE hT k1 rfl rfl
  rw [e1] at h'
  rw [show ((to : Int)).toNat = to from rfl] at h'
  rcases t_rPer h h0 h1 with ⟨x1, lf2, b0, b2, h⟩ | ⟨x1, g3, r4, k2, lf2, b0, b2, h⟩
  · have hr2 : r2 = 0 := by
      rcases e2 with ⟨z1, z2⟩ | ⟨z1, z2⟩
      · exact absurd z1 x1
      · exact z2
    rcases h' with ⟨y1, y2⟩ | ⟨y1, g12, r13, k3, y2⟩
    · exact absurd hr2 y1
    · obtain ⟨e5, e6⟩ := oI y2
      rcases t_rPer21 h b0 b2 with ⟨w1, w2⟩ | ⟨w1, ⟨w2, g4, r5, k4, w3⟩ | ⟨w2, w3⟩⟩
      · exact absurd rfl w1
      · obtain ⟨e3, e4⟩ := oI w3
        obtain ⟨z1, z2, z3⟩ := fail_pr hT hf (by decide) k4 rfl rfl k3 rfl rfl
        refine Or.inr ⟨e4, by rw [e6, z2], ?_⟩
        rw [e3, e5]
        exact z3
      · exact absurd w2 x1
  · have hr2 : r2 = 1 := by
      rcases e2 with ⟨z1, z2⟩ | ⟨z1, z2⟩
      · exact z2
      · exact absurd x1 z1
    obtain ⟨V, hV, hNR⟩ := tq_nh (sv := sv) (L := L) hE hT x1
    obtain ⟨e3, e4⟩ := nper_ok k2 rfl rfl hn hk
    rw [e3] at h
    rcases h' with ⟨y1, g4, r5, k3, y2⟩ | ⟨y1, y2⟩
    · obtain ⟨e5, e6⟩ := fnd_ok (b := 5) (k := k) k3 rfl rfl rfl hV (by omega)
      rw [e5] at y2
      obtain ⟨e7, e8⟩ := FI_eq e4 e6 (fun i hi => NR_eq (hN i hi) hNR)
      have y2 := y2 (by omega) (by omega)
      have dr : ∀ v, cup d 254 to v 253 = d 253 := fun v => cup_row d _ _ (by decide)
      have ds : ∀ v, cup d 254 to v 260 = d 260 := fun v => cup_row d _ _ (by decide)
      rcases y2 with ⟨u1, g9, k4, u2⟩ | ⟨u1, g10, r11, k4, u2⟩
      · obtain ⟨e9, e10⟩ := oI u2
        rcases t_rPer21 h b0 b2 with ⟨w1, g2, k5, w2⟩ | ⟨w1, w2⟩
        · obtain ⟨e11, e12⟩ := oI w2
          refine Or.inl ⟨e10, ?_, ?_⟩
          · rcases e8 with z | ⟨i, z1, z2⟩
            · exact absurd z w1
            · exact ⟨i, z1, by rw [e12, z2]⟩
          · rw [e11, e9, e12, e7]
            exact adv_su (c0 := c) (hE.up rfl rfl rfl (dr _) (ds _)) (hT.up rfl (dr _) (ds _)) (Or.inr (Or.inl x1)) k5 rfl k4 rfl
        · exact absurd (by rw [← e7]; exact w1) u1
      · obtain ⟨e9, e10⟩ := oI u2
        rcases t_rPer21 h b0 b2 with ⟨w1, w2⟩ | ⟨w1, ⟨w2, w3⟩ | ⟨w2, g6, r7, k5, w3⟩⟩
        · exact absurd (by rw [e7]; exact u1) w1
        · exact absurd x1 w2
        · obtain ⟨e11, e12⟩ := oI w3
          obtain ⟨z1, z2, z3⟩ := fail_pr (hT.up rfl (dr r5) (ds r5)) (by rw [dr]; exact hf) (by decide) k5 rfl rfl k4 rfl rfl
          refine Or.inr ⟨by rw [e12]; exact w1, by rw [e10, z2], ?_⟩
          rw [e11, e9]
          exact z3
    · rw [hr2] at y1
      exact absurd y1 (by decide)
end LookN
