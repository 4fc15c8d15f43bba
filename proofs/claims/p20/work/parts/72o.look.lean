/-! names looked up, on both sides -/
def NP (c d : cg) (n : Nat) : Prop := ∀ i : Nat, i < n → NR (c 47 i) (d 255 (48 + i))
def NQ (c d : cg) (n : Nat) : Prop := ∀ i : Nat, i < n → NR (c (59 + 2 * i) 0) (d 255 (53 + i))
/-- where w first is among the first n, or not -/
def FI (f : Nat → Int) (n : Nat) (w r : Int) : Prop := (∃ k : Nat, k < n ∧ f k = w ∧ (∀ j, j < k → f j ≠ w) ∧ r = (k : Int)) ∨ ((∀ k, k < n → f k ≠ w) ∧ r = -1)
theorem FI_eq {f f' : Nat → Int} {n : Nat} {w w' r r' : Int} (h : FI f n w r) (h' : FI f' n w' r') (he : ∀ i, i < n → (f i = w ↔ f' i = w')) : r = r' ∧ (r = -1 ∨ ∃ i : Nat, i < n ∧ r = (i : Int)) := by
  rcases h with ⟨k, a1, a2, a3, a4⟩ | ⟨a1, a2⟩
  · rcases h' with ⟨k', b1, b2, b3, b4⟩ | ⟨b1, b2⟩
    · have e : k = k' := by
        rcases Nat.lt_trichotomy k k' with z | z | z
        · exact absurd ((he k a1).mp a2) (b3 k z)
        · exact z
        · exact absurd ((he k' b1).mpr b2) (a3 k' z)
      subst e
      exact ⟨by rw [a4, b4], Or.inr ⟨k, a1, a4⟩⟩
    · exact absurd ((he k a1).mp a2) (b1 k a1)
  · rcases h' with ⟨k', b1, b2, b3, b4⟩ | ⟨b1, b2⟩
    · exact absurd ((he k' b1).mpr b2) (a1 k' b1)
    · exact ⟨by rw [a2, b2], Or.inl a2⟩
section Look
variable {sv : Nat → Int32} {L : Nat} {o : cg × Option cv}
theorem plc_l {c : cg} {k : Nat} {w : Int} (hn : c 45 0 = (k : Int)) (h5 : k ≤ 5) : ∀ (n : Nat) {lf : dlf} {i : Nat}, lf 0 = (4, 45) → lf 1 = (2, w) → lf 3 = (0, (i : Int)) → i ≤ k → (∀ j, j < i → c 47 j ≠ w) → zr sv L n 48 2 lf [] c o → ∃ r, FI (c 47) k w r ∧ o = (c, some (0, r))
  | 0, _, _, _, _, _, _, _, h => (zr_0 h).elim
  | n + 1, lf, i, h0, h1, h3, hi, hj, h => by
    rcases t_plcNamed2 h h0 h1 h3 with ⟨hc, h⟩ | ⟨hc, h⟩
    · exact ⟨-1, Or.inr ⟨fun j hjk => hj j (by omega), rfl⟩, h⟩
    · rw [hn] at hc
      have h := h (by omega) (by omega)
      rw [show ((i : Int)).toNat = i from rfl, w32_id (z := (i : Int) + 1) (by omega) (by omega)] at h
      rcases h with ⟨hx, lf', a0, a1, a3, h⟩ | ⟨hx, h⟩
      · refine plc_l hn h5 n (i := i + 1) a0 a1 (by rw [a3]; rfl) (by omega) (fun j hj' => ?_) h
        by_cases e : j = i
        · intro z
          exact hx (csgn_z.mpr (by rw [← e, z]; omega))
        · exact hj j (by omega)
      · have hx := csgn_z.mp hx
        exact ⟨(i : Int), Or.inl ⟨i, by omega, by omega, hj, rfl⟩, h⟩
theorem per_l {c : cg} {k : Nat} {w : Int} (hn : c 45 3 = (k : Int)) (h5 : k ≤ 6) : ∀ (n : Nat) {lf : dlf} {i : Nat}, lf 0 = (4, 45) → lf 1 = (2, w) → lf 3 = (0, (i : Int)) → i ≤ k → (∀ j : Nat, j < i → c (59 + 2 * j) 0 ≠ w) → zr sv L n 45 2 lf [] c o → ∃ r, FI (fun i => c (59 + 2 * i) 0) k w r ∧ o = (c, some (0, r))
  | 0, _, _, _, _, _, _, _, h => (zr_0 h).elim
  | n + 1, lf, i, h0, h1, h3, hi, hj, h => by
    rcases t_perNamed2 h h0 h1 h3 with ⟨hc, h⟩ | ⟨hc, h⟩
    · exact ⟨-1, Or.inr ⟨fun j hjk => hj j (by omega), rfl⟩, h⟩
    · rw [hn] at hc
      have h := h (by omega) (by omega)
      rw [show ((59 : Int) + 2 * (i : Int)).toNat = 59 + 2 * i by omega, w32_id (z := (i : Int) + 1) (by omega) (by omega)] at h
      rcases h with ⟨hx, lf', a0, a1, a3, h⟩ | ⟨hx, h⟩
      · refine per_l hn h5 n (i := i + 1) a0 a1 (by rw [a3]; rfl) (by omega) (fun j hj' => ?_) h
        by_cases e : j = i
        · intro z
          exact hx (csgn_z.mpr (by rw [← e, z]; omega))
        · exact hj j (by omega)
      · have hx := csgn_z.mp hx
        exact ⟨(i : Int), Or.inl ⟨i, by omega, by show c (59 + 2 * i) 0 = w; omega, hj, rfl⟩, h⟩
theorem plc_ok {n : Nat} {lf : dlf} {c c1 : cg} {k : Nat} {w r : Int} (h : zr sv L n 48 0 lf [] c (c1, some (0, r))) (h0 : lf 0 = (4, 45)) (h1 : lf 1 = (2, w)) (hn : c 45 0 = (k : Int)) (h5 : k ≤ 5) : c1 = c ∧ FI (c 47) k w r := by
  obtain ⟨lf', a0, a1, a3, h⟩ := t_plcNamed0 h h0 h1
  obtain ⟨r', e1, e2⟩ := plc_l hn h5 n (i := 0) a0 a1 a3 (Nat.zero_le _) (fun j hj => absurd hj (Nat.not_lt_zero j)) h
  obtain ⟨e3, e4⟩ := oI e2
  exact ⟨e3, by rw [e4]; exact e1⟩
theorem per_ok {n : Nat} {lf : dlf} {c c1 : cg} {k : Nat} {w r : Int} (h : zr sv L n 45 0 lf [] c (c1, some (0, r))) (h0 : lf 0 = (4, 45)) (h1 : lf 1 = (2, w)) (hn : c 45 3 = (k : Int)) (h5 : k ≤ 6) : c1 = c ∧ FI (fun i => c (59 + 2 * i) 0) k w r := by
  obtain ⟨lf', a0, a1, a3, h⟩ := t_perNamed0 h h0 h1
  obtain ⟨r', e1, e2⟩ := per_l hn h5 n (i := 0) a0 a1 a3 (Nat.zero_le _) (fun j hj => absurd hj (Nat.not_lt_zero j)) h
  obtain ⟨e3, e4⟩ := oI e2
  exact ⟨e3, by rw [e4]; exact e1⟩
/-- what nameHere() gives, whenever it is asked -/
def NH (sv : Nat → Int32) (L : Nat) (d : cg) (V : Int) : Prop := ∀ (n : Nat) (lf : dlf) (d1 : cg) (r : Int), zr sv L n 183 0 lf [] d (d1, some (2, r)) → lf 0 = (4, 253) → d1 = d ∧ r = V
theorem fnd_l {d : cg} {V : Int} (hV : NH sv L d V) {b k : Nat} (hb : b + k ≤ 72) : ∀ (n : Nat) {lf : dlf} {i : Nat}, lf 0 = (4, 253) → lf 1 = (0, (b : Int)) → lf 2 = (0, (k : Int)) → lf 3 = (0, (i : Int)) → i ≤ k → (∀ j, j < i → d 255 (b + j) ≠ V) → zr sv L n 182 2 lf [] d o → ∃ r, FI (fun i => d 255 (b + i)) k V r ∧ o = (d, some (0, r))
  | 0, _, _, _, _, _, _, _, _, h => (zr_0 h).elim
  | n + 1, lf, i, h0, h1, h2, h3, hi, hj, h => by
    rcases m_find2 h h0 h1 h2 h3 with ⟨hc, h⟩ | ⟨hc, h⟩
    · exact ⟨-1, Or.inr ⟨fun j hjk => hj j (by omega), rfl⟩, h⟩
    · have e1 : w32 ((b : Int) + (i : Int)) = ((b + i : Nat) : Int) := by rw [w32_id (by omega) (by omega)]; omega
      rw [e1] at h
      obtain ⟨g4, r5, k1, h⟩ := h (by omega) (by omega)
      obtain ⟨e2, e3⟩ := hV n _ _ _ k1 rfl
      rw [e2, e3, show (((b + i : Nat) : Int)).toNat = b + i from rfl, w32_id (z := (i : Int) + 1) (by omega) (by omega)] at h
      rcases h with ⟨hx, lf', a0, a1, a2, a3, h⟩ | ⟨hx, h⟩
      · refine fnd_l hV hb n (i := i + 1) a0 a1 a2 (by rw [a3]; rfl) (by omega) (fun j hj' => ?_) h
        by_cases e : j = i
        · intro z
          exact hx (csgn_z.mpr (by rw [← e, z]; omega))
        · exact hj j (by omega)
      · have hx := csgn_z.mp hx
        exact ⟨(i : Int), Or.inl ⟨i, by omega, by show d 255 (b + i) = V; omega, hj, rfl⟩, h⟩
theorem fnd_ok {n : Nat} {lf : dlf} {d d1 : cg} {V r : Int} {b k : Nat} (h : zr sv L n 182 0 lf [] d (d1, some (0, r))) (h0 : lf 0 = (4, 253)) (h1 : lf 1 = (0, (b : Int))) (h2 : lf 2 = (0, (k : Int))) (hV : NH sv L d V) (hb : b + k ≤ 72) : d1 = d ∧ FI (fun i => d 255 (b + i)) k V r := by
  obtain ⟨lf', a0, a1, a2, a3, h⟩ := m_find0 h h0 h1 h2
  obtain ⟨r', e1, e2⟩ := fnd_l hV hb n (i := 0) a0 a1 a2 a3 (Nat.zero_le _) (fun j hj => absurd hj (Nat.not_lt_zero j)) h
  obtain ⟨e3, e4⟩ := oI e2
  exact ⟨e3, by rw [e4]; exact e1⟩
/-- a name here: its two numbers -/
theorem tq_nh {c d : cg} {m : Nat} (hE : TE c d m) (hT : TQ c d m) (hk : c 88 4 = 2) : ∃ V, NH sv L d V ∧ NR (c 88 6) V := by
  have hT0 := hT
  obtain ⟨p, hp, hp', hpm, hT⟩ := hT
  rcases hT with ⟨a1, a2, a3⟩ | ⟨q, a1, a2, a3, a4, a5, a6, a7⟩ | ⟨q, a1, a2, a3, a4, a5, a6, a7⟩ | ⟨q, a1, a2, a3, a4, a5, a6, a7⟩ | ⟨a1, a2, a3⟩
  · omega
  · rcases a7 with ⟨y1, y2, y3⟩ | ⟨y1, y2, y3⟩
    · omega
    · refine ⟨P8 (mb d) p (q - p), fun n lf d1 r h h0 => ?_, mb d, p, q - p, y1, fun j z1 z2 => a6 j z1 (by omega), y2, rfl⟩
      exact nam_ok (p := p) (q := q) (m := m) h h0 hp' a4 (by omega) a2 hE.2.2.1 hE.1 hE.2.2.2.2.1 y1 a6
  all_goals omega
variable {n n' : Nat} {lf lf' : dlf} {c d c' d' : cg} {m : Nat} {r r' : Int}
/-- passPlace(draft) and oldOne of a place -/
theorem oplc_pr {k to : Nat} (hk : k ≤ 5) (hn : c 45 0 = (k : Int)) (hN : NP c d k) (hto : to < 5208) (hE : TE c d m) (hT : TQ c d m) (hf : d 253 18 = 0) (h : zr sv L n 47 0 lf [] c (c', some (0, r))) (h0 : lf 0 = (4, 88)) (h1 : lf 1 = (4, 45)) (h' : zr sv L n' 180 0 lf' [] d (d', some (0, r'))) (h0' : lf' 0 = (4, 253)) (h1' : lf' 1 = (0, 48)) (h2' : lf' 2 = (0, (k : Int))) (h3' : lf' 3 = (0, (to : Int))) : (r' = 1 ∧ (∃ i : Nat, i < k ∧ r = (i : Int)) ∧ SU c (cup d 254 to r) c' d' m) ∨ (r = -1 ∧ r' = 0 ∧ FLT c' d') := by
  obtain ⟨g1, r2, k1, h'⟩ := m_old h' h0' h1' h2' h3'
  obtain ⟨e1, e2⟩ := tq_name hE hT k1 rfl rfl
  rw [e1] at h'
  rw [show ((to : Int)).toNat = to from rfl] at h'
  rcases t_passPlc h h0 h1 with ⟨x1, lf2, b0, b2, h⟩ | ⟨x1, g3, r4, k2, lf2, b0, b2, h⟩
  · have hr2 : r2 = 0 := by
      rcases e2 with ⟨z1, z2⟩ | ⟨z1, z2⟩
      · exact absurd z1 x1
      · exact z2
    rcases h' with ⟨y1, y2⟩ | ⟨y1, g12, r13, k3, y2⟩
    · exact absurd hr2 y1
    · obtain ⟨e5, e6⟩ := oI y2
      rcases t_passPlc21 h b0 b2 with ⟨w1, w2⟩ | ⟨w1, ⟨w2, g4, r5, k4, w3⟩ | ⟨w2, w3⟩⟩
      · exact absurd rfl w1
      · obtain ⟨e3, e4⟩ := oI w3
        obtain ⟨z1, z2, z3⟩ := fail_pr hT hf (by decide) k4 rfl rfl k3 rfl rfl
        refine Or.inr ⟨e4, by rw [e6, z2], ?_⟩
        rw [e3, e5]
        exact z3
      · exact absurd w2 x1
  · have hr2 : r2 = 1 := by
      rcases e2 with ⟨z1, z2⟩ | ⟨z1, z2⟩
      · exact z2
      · exact absurd x1 z1
    obtain ⟨V, hV, hNR⟩ := tq_nh (sv := sv) (L := L) hE hT x1
    obtain ⟨e3, e4⟩ := plc_ok k2 rfl rfl hn hk
    rw [e3] at h
    rcases h' with ⟨y1, g4, r5, k3, y2⟩ | ⟨y1, y2⟩
    · obtain ⟨e5, e6⟩ := fnd_ok (b := 48) (k := k) k3 rfl rfl rfl hV (by omega)
      rw [e5] at y2
      obtain ⟨e7, e8⟩ := FI_eq e4 e6 (fun i hi => NR_eq (hN i hi) hNR)
      have y2 := y2 (by omega) (by omega)
      have dr : ∀ v, cup d 254 to v 253 = d 253 := fun v => cup_row d _ _ (by decide)
      have ds : ∀ v, cup d 254 to v 260 = d 260 := fun v => cup_row d _ _ (by decide)
      rcases y2 with ⟨u1, g9, k4, u2⟩ | ⟨u1, g10, r11, k4, u2⟩
      · obtain ⟨e9, e10⟩ := oI u2
        rcases t_passPlc21 h b0 b2 with ⟨w1, g2, k5, w2⟩ | ⟨w1, w2⟩
        · obtain ⟨e11, e12⟩ := oI w2
          refine Or.inl ⟨e10, ?_, ?_⟩
          · rcases e8 with z | ⟨i, z1, z2⟩
            · exact absurd z w1
            · exact ⟨i, z1, by rw [e12, z2]⟩
          · rw [e11, e9, e12, e7]
            exact adv_su (c0 := c) (hE.up rfl rfl rfl (dr _) (ds _)) (hT.up rfl (dr _) (ds _)) (Or.inr (Or.inl x1)) k5 rfl k4 rfl
        · exact absurd (by rw [← e7]; exact w1) u1
      · obtain ⟨e9, e10⟩ := oI u2
        rcases t_passPlc21 h b0 b2 with ⟨w1, w2⟩ | ⟨w1, ⟨w2, w3⟩ | ⟨w2, g6, r7, k5, w3⟩⟩
        · exact absurd (by rw [e7]; exact u1) w1
        · exact absurd x1 w2
        · obtain ⟨e11, e12⟩ := oI w3
          obtain ⟨z1, z2, z3⟩ := fail_pr (hT.up rfl (dr r5) (ds r5)) (by rw [dr]; exact hf) (by decide) k5 rfl rfl k4 rfl rfl
          refine Or.inr ⟨by rw [e12]; exact w1, by rw [e10, z2], ?_⟩
          rw [e11, e9]
          exact z3
    · rw [hr2] at y1
      exact absurd y1 (by decide)
/-- passPerson(draft) and oldOne of a person -/
theorem oper_pr {k to : Nat} (hk : k ≤ 6) (hn : c 45 3 = (k : Int)) (hN : NQ c d k) (hto : to < 5208) (hE : TE c d m) (hT : TQ c d m) (hf : d 253 18 = 0) (h : zr sv L n 44 0 lf [] c (c', some (0, r))) (h0 : lf 0 = (4, 88)) (h1 : lf 1 = (4, 45)) (h' : zr sv L n' 180 0 lf' [] d (d', some (0, r'))) (h0' : lf' 0 = (4, 253)) (h1' : lf' 1 = (0, 53)) (h2' : lf' 2 = (0, (k : Int))) (h3' : lf' 3 = (0, (to : Int))) : (r' = 1 ∧ (∃ i : Nat, i < k ∧ r = (i : Int)) ∧ SU c (cup d 254 to r) c' d' m) ∨ (r = -1 ∧ r' = 0 ∧ FLT c' d') := by
  obtain ⟨g1, r2, k1, h'⟩ := m_old h' h0' h1' h2' h3'
  obtain ⟨e1, e2⟩ := tq_name hE hT k1 rfl rfl
  rw [e1] at h'
  rw [show ((to : Int)).toNat = to from rfl] at h'
  rcases t_passPer h h0 h1 with ⟨x1, lf2, b0, b2, h⟩ | ⟨x1, g3, r4, k2, lf2, b0, b2, h⟩
  · have hr2 : r2 = 0 := by
      rcases e2 with ⟨z1, z2⟩ | ⟨z1, z2⟩
      · exact absurd z1 x1
      · exact z2
    rcases h' with ⟨y1, y2⟩ | ⟨y1, g12, r13, k3, y2⟩
    · exact absurd hr2 y1
    · obtain ⟨e5, e6⟩ := oI y2
      rcases t_passPer21 h b0 b2 with ⟨w1, w2⟩ | ⟨w1, ⟨w2, g4, r5, k4, w3⟩ | ⟨w2, w3⟩⟩
      · exact absurd rfl w1
      · obtain ⟨e3, e4⟩ := oI w3
        obtain ⟨z1, z2, z3⟩ := fail_pr hT hf (by decide) k4 rfl rfl k3 rfl rfl
        refine Or.inr ⟨e4, by rw [e6, z2], ?_⟩
        rw [e3, e5]
        exact z3
      · exact absurd w2 x1
  · have hr2 : r2 = 1 := by
      rcases e2 with ⟨z1, z2⟩ | ⟨z1, z2⟩
      · exact z2
      · exact absurd x1 z1
    obtain ⟨V, hV, hNR⟩ := tq_nh (sv := sv) (L := L) hE hT x1
    obtain ⟨e3, e4⟩ := per_ok k2 rfl rfl hn hk
    rw [e3] at h
    rcases h' with ⟨y1, g4, r5, k3, y2⟩ | ⟨y1, y2⟩
    · obtain ⟨e5, e6⟩ := fnd_ok (b := 53) (k := k) k3 rfl rfl rfl hV (by omega)
      rw [e5] at y2
      obtain ⟨e7, e8⟩ := FI_eq e4 e6 (fun i hi => NR_eq (hN i hi) hNR)
      have y2 := y2 (by omega) (by omega)
      have dr : ∀ v, cup d 254 to v 253 = d 253 := fun v => cup_row d _ _ (by decide)
      have ds : ∀ v, cup d 254 to v 260 = d 260 := fun v => cup_row d _ _ (by decide)
      rcases y2 with ⟨u1, g9, k4, u2⟩ | ⟨u1, g10, r11, k4, u2⟩
      · obtain ⟨e9, e10⟩ := oI u2
        rcases t_passPer21 h b0 b2 with ⟨w1, g2, k5, w2⟩ | ⟨w1, w2⟩
        · obtain ⟨e11, e12⟩ := oI w2
          refine Or.inl ⟨e10, ?_, ?_⟩
          · rcases e8 with z | ⟨i, z1, z2⟩
            · exact absurd z w1
            · exact ⟨i, z1, by rw [e12, z2]⟩
          · rw [e11, e9, e12, e7]
            exact adv_su (c0 := c) (hE.up rfl rfl rfl (dr _) (ds _)) (hT.up rfl (dr _) (ds _)) (Or.inr (Or.inl x1)) k5 rfl k4 rfl
        · exact absurd (by rw [← e7]; exact w1) u1
      · obtain ⟨e9, e10⟩ := oI u2
        rcases t_passPer21 h b0 b2 with ⟨w1, w2⟩ | ⟨w1, ⟨w2, w3⟩ | ⟨w2, g6, r7, k5, w3⟩⟩
        · exact absurd (by rw [e7]; exact u1) w1
        · exact absurd x1 w2
        · obtain ⟨e11, e12⟩ := oI w3
          obtain ⟨z1, z2, z3⟩ := fail_pr (hT.up rfl (dr r5) (ds r5)) (by rw [dr]; exact hf) (by decide) k5 rfl rfl k4 rfl rfl
          refine Or.inr ⟨by rw [e12]; exact w1, by rw [e10, z2], ?_⟩
          rw [e11, e9]
          exact z3
    · rw [hr2] at y1
      exact absurd y1 (by decide)
end Look
