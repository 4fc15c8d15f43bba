/-! copies of a court: what is the same then -/
theorem ccp_in {g : cg} {ka kb sp dp m j : Nat} (h1 : dp ≤ j) (h2 : j < dp + m) : ccp g ka kb sp dp m kb j = g ka (sp + (j - dp)) := if_pos ⟨rfl, h1, h2⟩
theorem ccp_out {g : cg} {ka kb sp dp m k j : Nat} (h : k ≠ kb) : ccp g ka kb sp dp m k j = g k j := if_neg (fun e => h e.1)
theorem ccp_row (g : cg) {ka kb sp dp m k : Nat} (h : k ≠ kb) : ccp g ka kb sp dp m k = g k := funext fun _ => ccp_out h
def PCp (a a' b b' : Nat) (g g' : cg) : Prop := (∀ k : Nat, k ≠ a → k ≠ a' → g' k = g k) ∧ (∀ j : Nat, j < 6 → g' a j = g b j) ∧ ∀ h : Nat, h < 8 → g' a' h = g b' h
theorem pcp_of {g : cg} {a a' b b' : Nat} (h1 : a' ≠ a) (h2 : b' ≠ a) (h3 : b ≠ a) : PCp a a' b b' g (ccp (cup (cup (cup (cup (cup (cup g a 0 (g b 0)) a 1 (g b 1)) a 2 (g b 2)) a 3 (g b 3)) a 4 (g b 4)) a 5 (g b 5)) b' a' 0 0 8) := by
  refine ⟨fun k k1 k2 => ?_, fun j hj => ?_, fun h hh => ?_⟩
  · rw [ccp_row _ k2, cup_row _ _ _ k1, cup_row _ _ _ k1, cup_row _ _ _ k1, cup_row _ _ _ k1, cup_row _ _ _ k1, cup_row _ _ _ k1]
  · rw [ccp_out (Ne.symm h1)]
    rcases (show j = 0 ∨ j = 1 ∨ j = 2 ∨ j = 3 ∨ j = 4 ∨ j = 5 from by omega) with e | e | e | e | e | e <;> subst e
    · rw [cup_ne (by omega), cup_ne (by omega), cup_ne (by omega), cup_ne (by omega), cup_ne (by omega), cup_at]
    · rw [cup_ne (by omega), cup_ne (by omega), cup_ne (by omega), cup_ne (by omega), cup_at]
    · rw [cup_ne (by omega), cup_ne (by omega), cup_ne (by omega), cup_at]
    · rw [cup_ne (by omega), cup_ne (by omega), cup_at]
    · rw [cup_ne (by omega), cup_at]
    · rw [cup_at]
  · rw [ccp_in (Nat.zero_le _) (by omega), show 0 + (h - 0) = h by omega, cup_row _ _ _ h2, cup_row _ _ _ h2, cup_row _ _ _ h2, cup_row _ _ _ h2, cup_row _ _ _ h2, cup_row _ _ _ h2]
def OCp (a b : Nat) (g g' : cg) : Prop := (∀ k : Nat, k ≠ a → g' k = g k) ∧ ∀ j : Nat, j < 8 → g' a j = g b j
theorem ocp_of {g : cg} {a b : Nat} : OCp a b g (cup (cup (cup (cup (cup (cup (cup (cup g a 0 (g b 0)) a 1 (g b 1)) a 2 (g b 2)) a 3 (g b 3)) a 4 (g b 4)) a 5 (g b 5)) a 6 (g b 6)) a 7 (g b 7)) := by
  refine ⟨fun k k1 => ?_, fun j hj => ?_⟩
  · rw [cup_row _ _ _ k1, cup_row _ _ _ k1, cup_row _ _ _ k1, cup_row _ _ _ k1, cup_row _ _ _ k1, cup_row _ _ _ k1, cup_row _ _ _ k1, cup_row _ _ _ k1]
  · rcases (show j = 0 ∨ j = 1 ∨ j = 2 ∨ j = 3 ∨ j = 4 ∨ j = 5 ∨ j = 6 ∨ j = 7 from by omega) with e | e | e | e | e | e | e | e <;> subst e
    · rw [cup_ne (by omega), cup_ne (by omega), cup_ne (by omega), cup_ne (by omega), cup_ne (by omega), cup_ne (by omega), cup_ne (by omega), cup_at]
    · rw [cup_ne (by omega), cup_ne (by omega), cup_ne (by omega), cup_ne (by omega), cup_ne (by omega), cup_ne (by omega), cup_at]
    · rw [cup_ne (by omega), cup_ne (by omega), cup_ne (by omega), cup_ne (by omega), cup_ne (by omega), cup_at]
    · rw [cup_ne (by omega), cup_ne (by omega), cup_ne (by omega), cup_ne (by omega), cup_at]
    · rw [cup_ne (by omega), cup_ne (by omega), cup_ne (by omega), cup_at]
    · rw [cup_ne (by omega), cup_ne (by omega), cup_at]
    · rw [cup_ne (by omega), cup_at]
    · rw [cup_at]
def TCp (T S : Nat) (g g' : cg) : Prop := (∀ k : Nat, k < T ∨ T + 9 ≤ k → g' k = g k) ∧ (∀ j : Nat, j < 3 → g' T j = g S j) ∧ ∀ q r : Nat, q < 8 → (r : Int) < g S 2 → g' (T + 1 + q) r = g (S + 1 + q) r
theorem tcp_of {g : cg} {T S : Nat} (h : T + 9 ≤ S ∨ S + 9 ≤ T) : TCp T S g (ccp (ccp (ccp (ccp (ccp (ccp (ccp (ccp (cup (cup (cup g T 0 (g S 0)) T 1 (g S 1)) T 2 (g S 2)) (S + 1) (T + 1) 0 0 ((g S 2).toNat)) (S + 2) (T + 2) 0 0 ((g S 2).toNat)) (S + 3) (T + 3) 0 0 ((g S 2).toNat)) (S + 4) (T + 4) 0 0 ((g S 2).toNat)) (S + 5) (T + 5) 0 0 ((g S 2).toNat)) (S + 6) (T + 6) 0 0 ((g S 2).toNat)) (S + 7) (T + 7) 0 0 ((g S 2).toNat)) (S + 8) (T + 8) 0 0 ((g S 2).toNat)) := by
  refine ⟨fun k hk => ?_, fun j hj => ?_, fun q r hq hr => ?_⟩
  · rw [ccp_row _ (by omega), ccp_row _ (by omega), ccp_row _ (by omega), ccp_row _ (by omega), ccp_row _ (by omega), ccp_row _ (by omega), ccp_row _ (by omega), ccp_row _ (by omega), cup_row _ _ _ (by omega), cup_row _ _ _ (by omega), cup_row _ _ _ (by omega)]
  · rw [ccp_row _ (by omega), ccp_row _ (by omega), ccp_row _ (by omega), ccp_row _ (by omega), ccp_row _ (by omega), ccp_row _ (by omega), ccp_row _ (by omega), ccp_row _ (by omega)]
    rcases (show j = 0 ∨ j = 1 ∨ j = 2 from by omega) with e | e | e <;> subst e
    · rw [cup_ne (by omega), cup_ne (by omega), cup_at]
    · rw [cup_ne (by omega), cup_at]
    · rw [cup_at]
  · have hn : r < 0 + (g S 2).toNat := by omega
    have e0 : 0 + (r - 0) = r := by omega
    rcases (show q = 0 ∨ q = 1 ∨ q = 2 ∨ q = 3 ∨ q = 4 ∨ q = 5 ∨ q = 6 ∨ q = 7 from by omega) with e | e | e | e | e | e | e | e <;> subst e
    · rw [ccp_out (by omega), ccp_out (by omega), ccp_out (by omega), ccp_out (by omega), ccp_out (by omega), ccp_out (by omega), ccp_out (by omega), show T + 1 + 0 = T + 1 by omega, ccp_in (Nat.zero_le _) hn, e0, cup_row _ _ _ (by omega), cup_row _ _ _ (by omega), cup_row _ _ _ (by omega)]
    · rw [ccp_out (by omega), ccp_out (by omega), ccp_out (by omega), ccp_out (by omega), ccp_out (by omega), ccp_out (by omega), show T + 1 + 1 = T + 2 by omega, ccp_in (Nat.zero_le _) hn, e0, ccp_out (by omega), cup_row _ _ _ (by omega), cup_row _ _ _ (by omega), cup_row _ _ _ (by omega)]
    · rw [ccp_out (by omega), ccp_out (by omega), ccp_out (by omega), ccp_out (by omega), ccp_out (by omega), show T + 1 + 2 = T + 3 by omega, ccp_in (Nat.zero_le _) hn, e0, ccp_out (by omega), ccp_out (by omega), cup_row _ _ _ (by omega), cup_row _ _ _ (by omega), cup_row _ _ _ (by omega)]
    · rw [ccp_out (by omega), ccp_out (by omega), ccp_out (by omega), ccp_out (by omega), show T + 1 + 3 = T + 4 by omega, ccp_in (Nat.zero_le _) hn, e0, ccp_out (by omega), ccp_out (by omega), ccp_out (by omega), cup_row _ _ _ (by omega), cup_row _ _ _ (by omega), cup_row _ _ _ (by omega)]
    · rw [ccp_out (by omega), ccp_out (by omega), ccp_out (by omega), show T + 1 + 4 = T + 5 by omega, ccp_in (Nat.zero_le _) hn, e0, ccp_out (by omega), ccp_out (by omega), ccp_out (by omega), ccp_out (by omega), cup_row _ _ _ (by omega), cup_row _ _ _ (by omega), cup_row _ _ _ (by omega)]
    · rw [ccp_out (by omega), ccp_out (by omega), show T + 1 + 5 = T + 6 by omega, ccp_in (Nat.zero_le _) hn, e0, ccp_out (by omega), ccp_out (by omega), ccp_out (by omega), ccp_out (by omega), ccp_out (by omega), cup_row _ _ _ (by omega), cup_row _ _ _ (by omega), cup_row _ _ _ (by omega)]
    · rw [ccp_out (by omega), show T + 1 + 6 = T + 7 by omega, ccp_in (Nat.zero_le _) hn, e0, ccp_out (by omega), ccp_out (by omega), ccp_out (by omega), ccp_out (by omega), ccp_out (by omega), ccp_out (by omega), cup_row _ _ _ (by omega), cup_row _ _ _ (by omega), cup_row _ _ _ (by omega)]
    · rw [show T + 1 + 7 = T + 8 by omega, ccp_in (Nat.zero_le _) hn, e0, ccp_out (by omega), ccp_out (by omega), ccp_out (by omega), ccp_out (by omega), ccp_out (by omega), ccp_out (by omega), ccp_out (by omega), cup_row _ _ _ (by omega), cup_row _ _ _ (by omega), cup_row _ _ _ (by omega)]
/-- all of the court S in D -/
def CPD (D S : Nat) (g g' : cg) : Prop := (∀ k : Nat, k < D ∨ D + 42 ≤ k → g' k = g k) ∧ (∀ j : Nat, j = 0 ∨ j = 3 ∨ j = 5 ∨ j = 6 ∨ j = 7 ∨ j = 8 ∨ j = 9 → g' D j = g S j) ∧ ((∀ i : Nat, i < 5 → g' (D + 1) i = g (S + 1) i) ∧ ∀ i : Nat, i < 5 → g' (D + 2) i = g (S + 2) i) ∧ (∀ i : Nat, (i : Int) < g S 3 → i < 6 → (∀ j : Nat, j < 6 → g' (D + 14 + 2 * i) j = g (S + 14 + 2 * i) j) ∧ ∀ h : Nat, h < 8 → g' (D + 15 + 2 * i) h = g (S + 15 + 2 * i) h) ∧ (∀ i : Nat, (i : Int) < g S 9 → i < 16 → ∀ j : Nat, j < 8 → g' (D + 26 + i) j = g (S + 26 + i) j) ∧ (∀ j : Nat, j < 3 → g' (D + 5) j = g (S + 5) j) ∧ ∀ q r : Nat, q < 8 → (r : Int) < g (S + 5) 2 → g' (D + 6 + q) r = g (S + 6 + q) r
section Cp3_45
variable {sv : Nat → Int32} {L : Nat}
theorem cper_3_45 {n : Nat} {lf : dlf} {g g' : cg} {b : Nat} (hb : b < 6) (h : zr sv L n 61 0 lf [] g (g', none)) (h0 : lf 0 = (4, (17 : Int) + 2 * (b : Int))) (h1 : lf 1 = (4, (59 : Int) + 2 * (b : Int))) : PCp (17 + 2 * b) (18 + 2 * b) (59 + 2 * b) (60 + 2 * b) g g' := by
  have e := oV (c_per_3_45 (i := (b : Int)) (by omega) (by omega) h h0 h1)
  rw [show ((17 : Int) + 2 * (b : Int)).toNat = 17 + 2 * b by omega, show ((59 : Int) + 2 * (b : Int)).toNat = 59 + 2 * b by omega, show ((18 : Int) + 2 * (b : Int)).toNat = 18 + 2 * b by omega, show ((60 : Int) + 2 * (b : Int)).toNat = 60 + 2 * b by omega] at e
  rw [e]
  exact pcp_of (by omega) (by omega) (by omega)
theorem coath_3_45 {n : Nat} {lf : dlf} {g g' : cg} {b : Nat} (hb : b < 16) (h : zr sv L n 62 0 lf [] g (g', none)) (h0 : lf 0 = (4, (29 : Int) + (b : Int))) (h1 : lf 1 = (4, (71 : Int) + (b : Int))) : OCp (29 + b) (71 + b) g g' := by
  have e := oV (c_oath_3_45 (i := (b : Int)) (by omega) (by omega) h h0 h1)
  rw [show ((29 : Int) + (b : Int)).toNat = 29 + b by omega, show ((71 : Int) + (b : Int)).toNat = 71 + b by omega] at e
  rw [e]
  exact ocp_of
theorem cpl_3_45 {g' : cg} : ∀ (n : Nat) {lf : dlf} {g : cg} {b : Nat}, lf 0 = (4, 3) → lf 1 = (4, 45) → lf 2 = (0, (b : Int)) → zr sv L n 60 86 lf [] g (g', none) → ∃ N g1 lf1, lf1 0 = (4, 3) ∧ lf1 1 = (4, 45) ∧ lf1 2 = (0, 0) ∧ zr sv L N 60 123 lf1 [] g1 (g', none) ∧ (∀ k : Nat, k < 17 ∨ 29 ≤ k → g1 k = g k) ∧ (∀ k : Nat, k < 17 + 2 * b → g1 k = g k) ∧ ∀ i : Nat, b ≤ i → (i : Int) < g 3 3 → i < 6 → (∀ j : Nat, j < 6 → g1 (17 + 2 * i) j = g (59 + 2 * i) j) ∧ ∀ h : Nat, h < 8 → g1 (18 + 2 * i) h = g (60 + 2 * i) h
  | 0, _, _, _, _, _, _, h => (zr_0 h).elim
  | n + 1, lf, g, b, h0, h1, h2, h => by
    rcases c_case86_3_45 h h0 h1 h2 with ⟨x1, lx, z0, z1, z2, h⟩ | ⟨x1, ⟨x2, lx, z0, z1, z2, h⟩ | ⟨x2, h⟩⟩
    · exact ⟨n, g, lx, z0, z1, z2, h, fun _ _ => rfl, fun _ _ => rfl, fun i h1 h2 => by omega⟩
    · exact ⟨n, g, lx, z0, z1, z2, h, fun _ _ => rfl, fun _ _ => rfl, fun i h1 h2 => by omega⟩
    · obtain ⟨g7, k1, lx, z0, z1, z2, h⟩ := h (by omega) (by omega)
      obtain ⟨p1, p2, p3⟩ := cper_3_45 (b := b) (by omega) k1 rfl rfl
      obtain ⟨N, g1, lf1, y0, y1, y2, y3, y4, y5, y6⟩ := cpl_3_45 n (b := b + 1) z0 z1 (by rw [z2, w32_id (by omega) (by omega)]; rfl) h
      refine ⟨N, g1, lf1, y0, y1, y2, y3, fun k hk => (y4 k hk).trans (p1 k (by omega) (by omega)), fun k hk => (y5 k (by omega)).trans (p1 k (by omega) (by omega)), fun i i1 i2 i3 => ?_⟩
      by_cases e : i = b
      · subst e
        refine ⟨fun j hj => ?_, fun h hh => ?_⟩
        · rw [y5 _ (by omega)]; exact p2 j hj
        · rw [y5 _ (by omega)]; exact p3 h hh
      · have q := y6 i (by omega) (by rw [p1 3 (by omega) (by omega)]; exact i2) i3
        rw [p1 (59 + 2 * i) (by omega) (by omega), p1 (60 + 2 * i) (by omega) (by omega)] at q
        exact q
theorem col_3_45 {g' : cg} : ∀ (n : Nat) {lf : dlf} {g : cg} {b : Nat}, lf 0 = (4, 3) → lf 1 = (4, 45) → lf 2 = (0, (b : Int)) → zr sv L n 60 123 lf [] g (g', none) → (∀ k : Nat, k < 29 ∨ 45 ≤ k → g' k = g k) ∧ (∀ k : Nat, k < 29 + b → g' k = g k) ∧ ∀ i : Nat, b ≤ i → (i : Int) < g 3 9 → i < 16 → ∀ j : Nat, j < 8 → g' (29 + i) j = g (71 + i) j
  | 0, _, _, _, _, _, _, h => (zr_0 h).elim
  | n + 1, lf, g, b, h0, h1, h2, h => by
    rcases c_case123_3_45 h h0 h1 h2 with ⟨x1, h⟩ | ⟨x1, ⟨x2, h⟩ | ⟨x2, h⟩⟩
    · rw [oV h]
      exact ⟨fun _ _ => rfl, fun _ _ => rfl, fun i h1 h2 => by omega⟩
    · rw [oV h]
      exact ⟨fun _ _ => rfl, fun _ _ => rfl, fun i h1 h2 => by omega⟩
    · obtain ⟨g5, k1, lx, z0, z1, z2, h⟩ := h (by omega) (by omega)
      obtain ⟨p1, p2⟩ := coath_3_45 (b := b) (by omega) k1 rfl rfl
      obtain ⟨y4, y5, y6⟩ := col_3_45 n (b := b + 1) z0 z1 (by rw [z2, w32_id (by omega) (by omega)]; rfl) h
      refine ⟨fun k hk => (y4 k hk).trans (p1 k (by omega)), fun k hk => (y5 k (by omega)).trans (p1 k (by omega)), fun i i1 i2 i3 j hj => ?_⟩
      by_cases e : i = b
      · subst e
        rw [y5 _ (by omega)]; exact p2 j hj
      · rw [y6 i (by omega) (by rw [p1 3 (by omega)]; exact i2) i3 j hj, p1 (71 + i) (by omega)]
theorem call_3_45 {n : Nat} {lf : dlf} {g g' : cg} (h : zr sv L n 59 0 lf [] g (g', none)) (h0 : lf 0 = (4, 3)) (h1 : lf 1 = (4, 45)) : CPD 3 45 g g' := by
  obtain ⟨g1, k1, g2, k2, h⟩ := c_all_3_45 h h0 h1
  have e2 := oV h
  subst e2
  obtain ⟨lx, z0, z1, z2, k1⟩ := c_case0_3_45 k1 rfl rfl
  obtain ⟨N, g3, lf1, y0, y1, y2, k3, y4, -, y6⟩ := cpl_3_45 n (b := 0) z0 z1 z2 k1
  obtain ⟨w4, -, w6⟩ := col_3_45 N (b := 0) y0 y1 y2 k3
  have e := oV (c_tri_3_45 k2 rfl rfl)
  obtain ⟨t1, t2, t3⟩ := (show TCp 8 50 g1 g' by rw [e]; exact tcp_of (T := 8) (S := 50) (by omega))
  -- the plain fields
  generalize hg0 : ccp (ccp (cup (cup (cup (cup (cup (cup (cup g 3 0 (g 45 0)) 3 3 (g 45 3)) 3 5 (g 45 5)) 3 6 (g 45 6)) 3 7 (g 45 7)) 3 8 (g 45 8)) 3 9 (g 45 9)) 46 4 0 0 5) 47 5 0 0 5 = g0 at y4 y6
  have f0 : ∀ k : Nat, k ≠ 3 → k ≠ 4 → k ≠ 5 → g0 k = g k := fun k a1 a2 a3 => by
    rw [← hg0, ccp_row _ a3, ccp_row _ a2, cup_row _ _ _ a1, cup_row _ _ _ a1, cup_row _ _ _ a1, cup_row _ _ _ a1, cup_row _ _ _ a1, cup_row _ _ _ a1, cup_row _ _ _ a1]
  have fD : ∀ j : Nat, j = 0 ∨ j = 3 ∨ j = 5 ∨ j = 6 ∨ j = 7 ∨ j = 8 ∨ j = 9 → g0 3 j = g 45 j := fun j hj => by
    rw [← hg0, ccp_row _ (by decide), ccp_row _ (by decide)]
    rcases hj with e | e | e | e | e | e | e <;> subst e
    · rw [cup_ne (by omega), cup_ne (by omega), cup_ne (by omega), cup_ne (by omega), cup_ne (by omega), cup_ne (by omega), cup_at]
    · rw [cup_ne (by omega), cup_ne (by omega), cup_ne (by omega), cup_ne (by omega), cup_ne (by omega), cup_at]
    · rw [cup_ne (by omega), cup_ne (by omega), cup_ne (by omega), cup_ne (by omega), cup_at]
    · rw [cup_ne (by omega), cup_ne (by omega), cup_ne (by omega), cup_at]
    · rw [cup_ne (by omega), cup_ne (by omega), cup_at]
    · rw [cup_ne (by omega), cup_at]
    · rw [cup_at]
  have f1 : ∀ i : Nat, i < 5 → g0 4 i = g 46 i := fun i hi => by
    rw [← hg0, ccp_row _ (by decide), ccp_in (Nat.zero_le _) (by omega), show 0 + (i - 0) = i by omega, cup_row _ _ _ (by decide), cup_row _ _ _ (by decide), cup_row _ _ _ (by decide), cup_row _ _ _ (by decide), cup_row _ _ _ (by decide), cup_row _ _ _ (by decide), cup_row _ _ _ (by decide)]
  have f2 : ∀ i : Nat, i < 5 → g0 5 i = g 47 i := fun i hi => by
    rw [← hg0, ccp_in (Nat.zero_le _) (by omega), show 0 + (i - 0) = i by omega, ccp_row _ (by decide), cup_row _ _ _ (by decide), cup_row _ _ _ (by decide), cup_row _ _ _ (by decide), cup_row _ _ _ (by decide), cup_row _ _ _ (by decide), cup_row _ _ _ (by decide), cup_row _ _ _ (by decide)]
  have F : ∀ k : Nat, k < 8 ∨ 17 ≤ k → g' k = g1 k := fun k hk => t1 k (by omega)
  have G : ∀ k : Nat, k < 17 ∨ 45 ≤ k → g1 k = g0 k := fun k hk => (w4 k (by omega)).trans (y4 k (by omega))
  refine ⟨fun k hk => ?_, fun j hj => ?_, ⟨fun i hi => ?_, fun i hi => ?_⟩, fun i i1 i2 => ?_, fun i i1 i2 j hj => ?_, fun j hj => ?_, fun q r hq hr => ?_⟩
  · rw [F k (by omega), G k (by omega), f0 k (by omega) (by omega) (by omega)]
  · rw [F 3 (by omega), G 3 (by omega), fD j hj]
  · rw [F 4 (by omega), G 4 (by omega), f1 i hi]
  · rw [F 5 (by omega), G 5 (by omega), f2 i hi]
  · have q := y6 i (Nat.zero_le _) (by rw [fD 3 (by omega)]; exact i1) i2
    rw [f0 (59 + 2 * i) (by omega) (by omega) (by omega), f0 (60 + 2 * i) (by omega) (by omega) (by omega)] at q
    refine ⟨fun j hj => ?_, fun h hh => ?_⟩
    · rw [F (3 + 14 + 2 * i) (by omega), w4 (3 + 14 + 2 * i) (by omega)]; exact q.1 j hj
    · rw [F (3 + 15 + 2 * i) (by omega), w4 (3 + 15 + 2 * i) (by omega)]; exact q.2 h hh
  · rw [F (3 + 26 + i) (by omega), w6 i (Nat.zero_le _) (by rw [y4 3 (by omega), fD 9 (by omega)]; exact i1) i2 j hj, y4 (71 + i) (by omega), f0 (71 + i) (by omega) (by omega) (by omega)]
  · rw [show 3 + 5 = 8 from rfl, t2 j hj, G 50 (by omega), f0 50 (by omega) (by omega) (by omega)]
  · rw [show 3 + 6 + q = 8 + 1 + q by omega, t3 q r hq (by rw [G 50 (by omega), f0 50 (by omega) (by omega) (by omega)]; exact hr), G (50 + 1 + q) (by omega), f0 (50 + 1 + q) (by omega) (by omega) (by omega)]
end Cp3_45
section Cp127_3
variable {sv : Nat → Int32} {L : Nat}
theorem cper_127_3 {n : Nat} {lf : dlf} {g g' : cg} {b : Nat} (hb : b < 6) (h : zr sv L n 61 0 lf [] g (g', none)) (h0 : lf 0 = (4, (141 : Int) + 2 * (b : Int))) (h1 : lf 1 = (4, (17 : Int) + 2 * (b : Int))) : PCp (141 + 2 * b) (142 + 2 * b) (17 + 2 * b) (18 + 2 * b) g g' := by
  have e := oV (c_per_127_3 (i := (b : Int)) (by omega) (by omega) h h0 h1)
  rw [show ((141 : Int) + 2 * (b : Int)).toNat = 141 + 2 * b by omega, show ((17 : Int) + 2 * (b : Int)).toNat = 17 + 2 * b by omega, show ((142 : Int) + 2 * (b : Int)).toNat = 142 + 2 * b by omega, show ((18 : Int) + 2 * (b : Int)).toNat = 18 + 2 * b by omega] at e
  rw [e]
  exact pcp_of (by omega) (by omega) (by omega)
theorem coath_127_3 {n : Nat} {lf : dlf} {g g' : cg} {b : Nat} (hb : b < 16) (h : zr sv L n 62 0 lf [] g (g', none)) (h0 : lf 0 = (4, (153 : Int) + (b : Int))) (h1 : lf 1 = (4, (29 : Int) + (b : Int))) : OCp (153 + b) (29 + b) g g' := by
  have e := oV (c_oath_127_3 (i := (b : Int)) (by omega) (by omega) h h0 h1)
  rw [show ((153 : Int) + (b : Int)).toNat = 153 + b by omega, show ((29 : Int) + (b : Int)).toNat = 29 + b by omega] at e
  rw [e]
  exact ocp_of
theorem cpl_127_3 {g' : cg} : ∀ (n : Nat) {lf : dlf} {g : cg} {b : Nat}, lf 0 = (4, 127) → lf 1 = (4, 3) → lf 2 = (0, (b : Int)) → zr sv L n 60 86 lf [] g (g', none) → ∃ N g1 lf1, lf1 0 = (4, 127) ∧ lf1 1 = (4, 3) ∧ lf1 2 = (0, 0) ∧ zr sv L N 60 123 lf1 [] g1 (g', none) ∧ (∀ k : Nat, k < 141 ∨ 153 ≤ k → g1 k = g k) ∧ (∀ k : Nat, k < 141 + 2 * b → g1 k = g k) ∧ ∀ i : Nat, b ≤ i → (i : Int) < g 127 3 → i < 6 → (∀ j : Nat, j < 6 → g1 (141 + 2 * i) j = g (17 + 2 * i) j) ∧ ∀ h : Nat, h < 8 → g1 (142 + 2 * i) h = g (18 + 2 * i) h
  | 0, _, _, _, _, _, _, h => (zr_0 h).elim
  | n + 1, lf, g, b, h0, h1, h2, h => by
    rcases c_case86_127_3 h h0 h1 h2 with ⟨x1, lx, z0, z1, z2, h⟩ | ⟨x1, ⟨x2, lx, z0, z1, z2, h⟩ | ⟨x2, h⟩⟩
    · exact ⟨n, g, lx, z0, z1, z2, h, fun _ _ => rfl, fun _ _ => rfl, fun i h1 h2 => by omega⟩
    · exact ⟨n, g, lx, z0, z1, z2, h, fun _ _ => rfl, fun _ _ => rfl, fun i h1 h2 => by omega⟩
    · obtain ⟨g7, k1, lx, z0, z1, z2, h⟩ := h (by omega) (by omega)
      obtain ⟨p1, p2, p3⟩ := cper_127_3 (b := b) (by omega) k1 rfl rfl
      obtain ⟨N, g1, lf1, y0, y1, y2, y3, y4, y5, y6⟩ := cpl_127_3 n (b := b + 1) z0 z1 (by rw [z2, w32_id (by omega) (by omega)]; rfl) h
      refine ⟨N, g1, lf1, y0, y1, y2, y3, fun k hk => (y4 k hk).trans (p1 k (by omega) (by omega)), fun k hk => (y5 k (by omega)).trans (p1 k (by omega) (by omega)), fun i i1 i2 i3 => ?_⟩
      by_cases e : i = b
      · subst e
        refine ⟨fun j hj => ?_, fun h hh => ?_⟩
        · rw [y5 _ (by omega)]; exact p2 j hj
        · rw [y5 _ (by omega)]; exact p3 h hh
      · have q := y6 i (by omega) (by rw [p1 127 (by omega) (by omega)]; exact i2) i3
        rw [p1 (17 + 2 * i) (by omega) (by omega), p1 (18 + 2 * i) (by omega) (by omega)] at q
        exact q
theorem col_127_3 {g' : cg} : ∀ (n : Nat) {lf : dlf} {g : cg} {b : Nat}, lf 0 = (4, 127) → lf 1 = (4, 3) → lf 2 = (0, (b : Int)) → zr sv L n 60 123 lf [] g (g', none) → (∀ k : Nat, k < 153 ∨ 169 ≤ k → g' k = g k) ∧ (∀ k : Nat, k < 153 + b → g' k = g k) ∧ ∀ i : Nat, b ≤ i → (i : Int) < g 127 9 → i < 16 → ∀ j : Nat, j < 8 → g' (153 + i) j = g (29 + i) j
  | 0, _, _, _, _, _, _, h => (zr_0 h).elim
  | n + 1, lf, g, b, h0, h1, h2, h => by
    rcases c_case123_127_3 h h0 h1 h2 with ⟨x1, h⟩ | ⟨x1, ⟨x2, h⟩ | ⟨x2, h⟩⟩
    · rw [oV h]
      exact ⟨fun _ _ => rfl, fun _ _ => rfl, fun i h1 h2 => by omega⟩
    · rw [oV h]
      exact ⟨fun _ _ => rfl, fun _ _ => rfl, fun i h1 h2 => by omega⟩
    · obtain ⟨g5, k1, lx, z0, z1, z2, h⟩ := h (by omega) (by omega)
      obtain ⟨p1, p2⟩ := coath_127_3 (b := b) (by omega) k1 rfl rfl
      obtain ⟨y4, y5, y6⟩ := col_127_3 n (b := b + 1) z0 z1 (by rw [z2, w32_id (by omega) (by omega)]; rfl) h
      refine ⟨fun k hk => (y4 k hk).trans (p1 k (by omega)), fun k hk => (y5 k (by omega)).trans (p1 k (by omega)), fun i i1 i2 i3 j hj => ?_⟩
      by_cases e : i = b
      · subst e
        rw [y5 _ (by omega)]; exact p2 j hj
      · rw [y6 i (by omega) (by rw [p1 127 (by omega)]; exact i2) i3 j hj, p1 (29 + i) (by omega)]
theorem call_127_3 {n : Nat} {lf : dlf} {g g' : cg} (h : zr sv L n 59 0 lf [] g (g', none)) (h0 : lf 0 = (4, 127)) (h1 : lf 1 = (4, 3)) : CPD 127 3 g g' := by
  obtain ⟨g1, k1, g2, k2, h⟩ := c_all_127_3 h h0 h1
  have e2 := oV h
  subst e2
  obtain ⟨lx, z0, z1, z2, k1⟩ := c_case0_127_3 k1 rfl rfl
  obtain ⟨N, g3, lf1, y0, y1, y2, k3, y4, -, y6⟩ := cpl_127_3 n (b := 0) z0 z1 z2 k1
  obtain ⟨w4, -, w6⟩ := col_127_3 N (b := 0) y0 y1 y2 k3
  have e := oV (c_tri_127_3 k2 rfl rfl)
  obtain ⟨t1, t2, t3⟩ := (show TCp 132 8 g1 g' by rw [e]; exact tcp_of (T := 132) (S := 8) (by omega))
  -- the plain fields
  generalize hg0 : ccp (ccp (cup (cup (cup (cup (cup (cup (cup g 127 0 (g 3 0)) 127 3 (g 3 3)) 127 5 (g 3 5)) 127 6 (g 3 6)) 127 7 (g 3 7)) 127 8 (g 3 8)) 127 9 (g 3 9)) 4 128 0 0 5) 5 129 0 0 5 = g0 at y4 y6
  have f0 : ∀ k : Nat, k ≠ 127 → k ≠ 128 → k ≠ 129 → g0 k = g k := fun k a1 a2 a3 => by
    rw [← hg0, ccp_row _ a3, ccp_row _ a2, cup_row _ _ _ a1, cup_row _ _ _ a1, cup_row _ _ _ a1, cup_row _ _ _ a1, cup_row _ _ _ a1, cup_row _ _ _ a1, cup_row _ _ _ a1]
  have fD : ∀ j : Nat, j = 0 ∨ j = 3 ∨ j = 5 ∨ j = 6 ∨ j = 7 ∨ j = 8 ∨ j = 9 → g0 127 j = g 3 j := fun j hj => by
    rw [← hg0, ccp_row _ (by decide), ccp_row _ (by decide)]
    rcases hj with e | e | e | e | e | e | e <;> subst e
    · rw [cup_ne (by omega), cup_ne (by omega), cup_ne (by omega), cup_ne (by omega), cup_ne (by omega), cup_ne (by omega), cup_at]
    · rw [cup_ne (by omega), cup_ne (by omega), cup_ne (by omega), cup_ne (by omega), cup_ne (by omega), cup_at]
    · rw [cup_ne (by omega), cup_ne (by omega), cup_ne (by omega), cup_ne (by omega), cup_at]
    · rw [cup_ne (by omega), cup_ne (by omega), cup_ne (by omega), cup_at]
    · rw [cup_ne (by omega), cup_ne (by omega), cup_at]
    · rw [cup_ne (by omega), cup_at]
    · rw [cup_at]
  have f1 : ∀ i : Nat, i < 5 → g0 128 i = g 4 i := fun i hi => by
    rw [← hg0, ccp_row _ (by decide), ccp_in (Nat.zero_le _) (by omega), show 0 + (i - 0) = i by omega, cup_row _ _ _ (by decide), cup_row _ _ _ (by decide), cup_row _ _ _ (by decide), cup_row _ _ _ (by decide), cup_row _ _ _ (by decide), cup_row _ _ _ (by decide), cup_row _ _ _ (by decide)]
  have f2 : ∀ i : Nat, i < 5 → g0 129 i = g 5 i := fun i hi => by
    rw [← hg0, ccp_in (Nat.zero_le _) (by omega), show 0 + (i - 0) = i by omega, ccp_row _ (by decide), cup_row _ _ _ (by decide), cup_row _ _ _ (by decide), cup_row _ _ _ (by decide), cup_row _ _ _ (by decide), cup_row _ _ _ (by decide), cup_row _ _ _ (by decide), cup_row _ _ _ (by decide)]
  have F : ∀ k : Nat, k < 132 ∨ 141 ≤ k → g' k = g1 k := fun k hk => t1 k (by omega)
  have G : ∀ k : Nat, k < 141 ∨ 169 ≤ k → g1 k = g0 k := fun k hk => (w4 k (by omega)).trans (y4 k (by omega))
  refine ⟨fun k hk => ?_, fun j hj => ?_, ⟨fun i hi => ?_, fun i hi => ?_⟩, fun i i1 i2 => ?_, fun i i1 i2 j hj => ?_, fun j hj => ?_, fun q r hq hr => ?_⟩
  · rw [F k (by omega), G k (by omega), f0 k (by omega) (by omega) (by omega)]
  · rw [F 127 (by omega), G 127 (by omega), fD j hj]
  · rw [F 128 (by omega), G 128 (by omega), f1 i hi]
  · rw [F 129 (by omega), G 129 (by omega), f2 i hi]
  · have q := y6 i (Nat.zero_le _) (by rw [fD 3 (by omega)]; exact i1) i2
    rw [f0 (17 + 2 * i) (by omega) (by omega) (by omega), f0 (18 + 2 * i) (by omega) (by omega) (by omega)] at q
    refine ⟨fun j hj => ?_, fun h hh => ?_⟩
    · rw [F (127 + 14 + 2 * i) (by omega), w4 (127 + 14 + 2 * i) (by omega)]; exact q.1 j hj
    · rw [F (127 + 15 + 2 * i) (by omega), w4 (127 + 15 + 2 * i) (by omega)]; exact q.2 h hh
  · rw [F (127 + 26 + i) (by omega), w6 i (Nat.zero_le _) (by rw [y4 127 (by omega), fD 9 (by omega)]; exact i1) i2 j hj, y4 (29 + i) (by omega), f0 (29 + i) (by omega) (by omega) (by omega)]
  · rw [show 127 + 5 = 132 from rfl, t2 j hj, G 8 (by omega), f0 8 (by omega) (by omega) (by omega)]
  · rw [show 127 + 6 + q = 132 + 1 + q by omega, t3 q r hq (by rw [G 8 (by omega), f0 8 (by omega) (by omega) (by omega)]; exact hr), G (8 + 1 + q) (by omega), f0 (8 + 1 + q) (by omega) (by omega) (by omega)]
end Cp127_3
section Cp169_3
variable {sv : Nat → Int32} {L : Nat}
theorem cper_169_3 {n : Nat} {lf : dlf} {g g' : cg} {b : Nat} (hb : b < 6) (h : zr sv L n 61 0 lf [] g (g', none)) (h0 : lf 0 = (4, (183 : Int) + 2 * (b : Int))) (h1 : lf 1 = (4, (17 : Int) + 2 * (b : Int))) : PCp (183 + 2 * b) (184 + 2 * b) (17 + 2 * b) (18 + 2 * b) g g' := by
  have e := oV (c_per_169_3 (i := (b : Int)) (by omega) (by omega) h h0 h1)
  rw [show ((183 : Int) + 2 * (b : Int)).toNat = 183 + 2 * b by omega, show ((17 : Int) + 2 * (b : Int)).toNat = 17 + 2 * b by omega, show ((184 : Int) + 2 * (b : Int)).toNat = 184 + 2 * b by omega, show ((18 : Int) + 2 * (b : Int)).toNat = 18 + 2 * b by omega] at e
  rw [e]
  exact pcp_of (by omega) (by omega) (by omega)
theorem coath_169_3 {n : Nat} {lf : dlf} {g g' : cg} {b : Nat} (hb : b < 16) (h : zr sv L n 62 0 lf [] g (g', none)) (h0 : lf 0 = (4, (195 : Int) + (b : Int))) (h1 : lf 1 = (4, (29 : Int) + (b : Int))) : OCp (195 + b) (29 + b) g g' := by
  have e := oV (c_oath_169_3 (i := (b : Int)) (by omega) (by omega) h h0 h1)
  rw [show ((195 : Int) + (b : Int)).toNat = 195 + b by omega, show ((29 : Int) + (b : Int)).toNat = 29 + b by omega] at e
  rw [e]
  exact ocp_of
theorem cpl_169_3 {g' : cg} : ∀ (n : Nat) {lf : dlf} {g : cg} {b : Nat}, lf 0 = (4, 169) → lf 1 = (4, 3) → lf 2 = (0, (b : Int)) → zr sv L n 60 86 lf [] g (g', none) → ∃ N g1 lf1, lf1 0 = (4, 169) ∧ lf1 1 = (4, 3) ∧ lf1 2 = (0, 0) ∧ zr sv L N 60 123 lf1 [] g1 (g', none) ∧ (∀ k : Nat, k < 183 ∨ 195 ≤ k → g1 k = g k) ∧ (∀ k : Nat, k < 183 + 2 * b → g1 k = g k) ∧ ∀ i : Nat, b ≤ i → (i : Int) < g 169 3 → i < 6 → (∀ j : Nat, j < 6 → g1 (183 + 2 * i) j = g (17 + 2 * i) j) ∧ ∀ h : Nat, h < 8 → g1 (184 + 2 * i) h = g (18 + 2 * i) h
  | 0, _, _, _, _, _, _, h => (zr_0 h).elim
  | n + 1, lf, g, b, h0, h1, h2, h => by
    rcases c_case86_169_3 h h0 h1 h2 with ⟨x1, lx, z0, z1, z2, h⟩ | ⟨x1, ⟨x2, lx, z0, z1, z2, h⟩ | ⟨x2, h⟩⟩
    · exact ⟨n, g, lx, z0, z1, z2, h, fun _ _ => rfl, fun _ _ => rfl, fun i h1 h2 => by omega⟩
    · exact ⟨n, g, lx, z0, z1, z2, h, fun _ _ => rfl, fun _ _ => rfl, fun i h1 h2 => by omega⟩
    · obtain ⟨g7, k1, lx, z0, z1, z2, h⟩ := h (by omega) (by omega)
      obtain ⟨p1, p2, p3⟩ := cper_169_3 (b := b) (by omega) k1 rfl rfl
      obtain ⟨N, g1, lf1, y0, y1, y2, y3, y4, y5, y6⟩ := cpl_169_3 n (b := b + 1) z0 z1 (by rw [z2, w32_id (by omega) (by omega)]; rfl) h
      refine ⟨N, g1, lf1, y0, y1, y2, y3, fun k hk => (y4 k hk).trans (p1 k (by omega) (by omega)), fun k hk => (y5 k (by omega)).trans (p1 k (by omega) (by omega)), fun i i1 i2 i3 => ?_⟩
      by_cases e : i = b
      · subst e
        refine ⟨fun j hj => ?_, fun h hh => ?_⟩
        · rw [y5 _ (by omega)]; exact p2 j hj
        · rw [y5 _ (by omega)]; exact p3 h hh
      · have q := y6 i (by omega) (by rw [p1 169 (by omega) (by omega)]; exact i2) i3
        rw [p1 (17 + 2 * i) (by omega) (by omega), p1 (18 + 2 * i) (by omega) (by omega)] at q
        exact q
theorem col_169_3 {g' : cg} : ∀ (n : Nat) {lf : dlf} {g : cg} {b : Nat}, lf 0 = (4, 169) → lf 1 = (4, 3) → lf 2 = (0, (b : Int)) → zr sv L n 60 123 lf [] g (g', none) → (∀ k : Nat, k < 195 ∨ 211 ≤ k → g' k = g k) ∧ (∀ k : Nat, k < 195 + b → g' k = g k) ∧ ∀ i : Nat, b ≤ i → (i : Int) < g 169 9 → i < 16 → ∀ j : Nat, j < 8 → g' (195 + i) j = g (29 + i) j
  | 0, _, _, _, _, _, _, h => (zr_0 h).elim
  | n + 1, lf, g, b, h0, h1, h2, h => by
    rcases c_case123_169_3 h h0 h1 h2 with ⟨x1, h⟩ | ⟨x1, ⟨x2, h⟩ | ⟨x2, h⟩⟩
    · rw [oV h]
      exact ⟨fun _ _ => rfl, fun _ _ => rfl, fun i h1 h2 => by omega⟩
    · rw [oV h]
      exact ⟨fun _ _ => rfl, fun _ _ => rfl, fun i h1 h2 => by omega⟩
    · obtain ⟨g5, k1, lx, z0, z1, z2, h⟩ := h (by omega) (by omega)
      obtain ⟨p1, p2⟩ := coath_169_3 (b := b) (by omega) k1 rfl rfl
      obtain ⟨y4, y5, y6⟩ := col_169_3 n (b := b + 1) z0 z1 (by rw [z2, w32_id (by omega) (by omega)]; rfl) h
      refine ⟨fun k hk => (y4 k hk).trans (p1 k (by omega)), fun k hk => (y5 k (by omega)).trans (p1 k (by omega)), fun i i1 i2 i3 j hj => ?_⟩
      by_cases e : i = b
      · subst e
        rw [y5 _ (by omega)]; exact p2 j hj
      · rw [y6 i (by omega) (by rw [p1 169 (by omega)]; exact i2) i3 j hj, p1 (29 + i) (by omega)]
theorem call_169_3 {n : Nat} {lf : dlf} {g g' : cg} (h : zr sv L n 59 0 lf [] g (g', none)) (h0 : lf 0 = (4, 169)) (h1 : lf 1 = (4, 3)) : CPD 169 3 g g' := by
  obtain ⟨g1, k1, g2, k2, h⟩ := c_all_169_3 h h0 h1
  have e2 := oV h
  subst e2
  obtain ⟨lx, z0, z1, z2, k1⟩ := c_case0_169_3 k1 rfl rfl
  obtain ⟨N, g3, lf1, y0, y1, y2, k3, y4, -, y6⟩ := cpl_169_3 n (b := 0) z0 z1 z2 k1
  obtain ⟨w4, -, w6⟩ := col_169_3 N (b := 0) y0 y1 y2 k3
  have e := oV (c_tri_169_3 k2 rfl rfl)
  obtain ⟨t1, t2, t3⟩ := (show TCp 174 8 g1 g' by rw [e]; exact tcp_of (T := 174) (S := 8) (by omega))
  -- the plain fields
  generalize hg0 : ccp (ccp (cup (cup (cup (cup (cup (cup (cup g 169 0 (g 3 0)) 169 3 (g 3 3)) 169 5 (g 3 5)) 169 6 (g 3 6)) 169 7 (g 3 7)) 169 8 (g 3 8)) 169 9 (g 3 9)) 4 170 0 0 5) 5 171 0 0 5 = g0 at y4 y6
  have f0 : ∀ k : Nat, k ≠ 169 → k ≠ 170 → k ≠ 171 → g0 k = g k := fun k a1 a2 a3 => by
    rw [← hg0, ccp_row _ a3, ccp_row _ a2, cup_row _ _ _ a1, cup_row _ _ _ a1, cup_row _ _ _ a1, cup_row _ _ _ a1, cup_row _ _ _ a1, cup_row _ _ _ a1, cup_row _ _ _ a1]
  have fD : ∀ j : Nat, j = 0 ∨ j = 3 ∨ j = 5 ∨ j = 6 ∨ j = 7 ∨ j = 8 ∨ j = 9 → g0 169 j = g 3 j := fun j hj => by
    rw [← hg0, ccp_row _ (by decide), ccp_row _ (by decide)]
    rcases hj with e | e | e | e | e | e | e <;> subst e
    · rw [cup_ne (by omega), cup_ne (by omega), cup_ne (by omega), cup_ne (by omega), cup_ne (by omega), cup_ne (by omega), cup_at]
    · rw [cup_ne (by omega), cup_ne (by omega), cup_ne (by omega), cup_ne (by omega), cup_ne (by omega), cup_at]
    · rw [cup_ne (by omega), cup_ne (by omega), cup_ne (by omega), cup_ne (by omega), cup_at]
    · rw [cup_ne (by omega), cup_ne (by omega), cup_ne (by omega), cup_at]
    · rw [cup_ne (by omega), cup_ne (by omega), cup_at]
    · rw [cup_ne (by omega), cup_at]
    · rw [cup_at]
  have f1 : ∀ i : Nat, i < 5 → g0 170 i = g 4 i := fun i hi => by
    rw [← hg0, ccp_row _ (by decide), ccp_in (Nat.zero_le _) (by omega), show 0 + (i - 0) = i by omega, cup_row _ _ _ (by decide), cup_row _ _ _ (by decide), cup_row _ _ _ (by decide), cup_row _ _ _ (by decide), cup_row _ _ _ (by decide), cup_row _ _ _ (by decide), cup_row _ _ _ (by decide)]
  have f2 : ∀ i : Nat, i < 5 → g0 171 i = g 5 i := fun i hi => by
    rw [← hg0, ccp_in (Nat.zero_le _) (by omega), show 0 + (i - 0) = i by omega, ccp_row _ (by decide), cup_row _ _ _ (by decide), cup_row _ _ _ (by decide), cup_row _ _ _ (by decide), cup_row _ _ _ (by decide), cup_row _ _ _ (by decide), cup_row _ _ _ (by decide), cup_row _ _ _ (by decide)]
  have F : ∀ k : Nat, k < 174 ∨ 183 ≤ k → g' k = g1 k := fun k hk => t1 k (by omega)
  have G : ∀ k : Nat, k < 183 ∨ 211 ≤ k → g1 k = g0 k := fun k hk => (w4 k (by omega)).trans (y4 k (by omega))
  refine ⟨fun k hk => ?_, fun j hj => ?_, ⟨fun i hi => ?_, fun i hi => ?_⟩, fun i i1 i2 => ?_, fun i i1 i2 j hj => ?_, fun j hj => ?_, fun q r hq hr => ?_⟩
  · rw [F k (by omega), G k (by omega), f0 k (by omega) (by omega) (by omega)]
  · rw [F 169 (by omega), G 169 (by omega), fD j hj]
  · rw [F 170 (by omega), G 170 (by omega), f1 i hi]
  · rw [F 171 (by omega), G 171 (by omega), f2 i hi]
  · have q := y6 i (Nat.zero_le _) (by rw [fD 3 (by omega)]; exact i1) i2
    rw [f0 (17 + 2 * i) (by omega) (by omega) (by omega), f0 (18 + 2 * i) (by omega) (by omega) (by omega)] at q
    refine ⟨fun j hj => ?_, fun h hh => ?_⟩
    · rw [F (169 + 14 + 2 * i) (by omega), w4 (169 + 14 + 2 * i) (by omega)]; exact q.1 j hj
    · rw [F (169 + 15 + 2 * i) (by omega), w4 (169 + 15 + 2 * i) (by omega)]; exact q.2 h hh
  · rw [F (169 + 26 + i) (by omega), w6 i (Nat.zero_le _) (by rw [y4 169 (by omega), fD 9 (by omega)]; exact i1) i2 j hj, y4 (29 + i) (by omega), f0 (29 + i) (by omega) (by omega) (by omega)]
  · rw [show 169 + 5 = 174 from rfl, t2 j hj, G 8 (by omega), f0 8 (by omega) (by omega) (by omega)]
  · rw [show 169 + 6 + q = 174 + 1 + q by omega, t3 q r hq (by rw [G 8 (by omega), f0 8 (by omega) (by omega) (by omega)]; exact hr), G (8 + 1 + q) (by omega), f0 (8 + 1 + q) (by omega) (by omega) (by omega)]
end Cp169_3
section Cp211_3
variable {sv : Nat → Int32} {L : Nat}
theorem cper_211_3 {n : Nat} {lf : dlf} {g g' : cg} {b : Nat} (hb : b < 6) (h : zr sv L n 61 0 lf [] g (g', none)) (h0 : lf 0 = (4, (225 : Int) + 2 * (b : Int))) (h1 : lf 1 = (4, (17 : Int) + 2 * (b : Int))) : PCp (225 + 2 * b) (226 + 2 * b) (17 + 2 * b) (18 + 2 * b) g g' := by
  have e := oV (c_per_211_3 (i := (b : Int)) (by omega) (by omega) h h0 h1)
  rw [show ((225 : Int) + 2 * (b : Int)).toNat = 225 + 2 * b by omega, show ((17 : Int) + 2 * (b : Int)).toNat = 17 + 2 * b by omega, show ((226 : Int) + 2 * (b : Int)).toNat = 226 + 2 * b by omega, show ((18 : Int) + 2 * (b : Int)).toNat = 18 + 2 * b by omega] at e
  rw [e]
  exact pcp_of (by omega) (by omega) (by omega)
theorem coath_211_3 {n : Nat} {lf : dlf} {g g' : cg} {b : Nat} (hb : b < 16) (h : zr sv L n 62 0 lf [] g (g', none)) (h0 : lf 0 = (4, (237 : Int) + (b : Int))) (h1 : lf 1 = (4, (29 : Int) + (b : Int))) : OCp (237 + b) (29 + b) g g' := by
  have e := oV (c_oath_211_3 (i := (b : Int)) (by omega) (by omega) h h0 h1)
  rw [show ((237 : Int) + (b : Int)).toNat = 237 + b by omega, show ((29 : Int) + (b : Int)).toNat = 29 + b by omega] at e
  rw [e]
  exact ocp_of
theorem cpl_211_3 {g' : cg} : ∀ (n : Nat) {lf : dlf} {g : cg} {b : Nat}, lf 0 = (4, 211) → lf 1 = (4, 3) → lf 2 = (0, (b : Int)) → zr sv L n 60 86 lf [] g (g', none) → ∃ N g1 lf1, lf1 0 = (4, 211) ∧ lf1 1 = (4, 3) ∧ lf1 2 = (0, 0) ∧ zr sv L N 60 123 lf1 [] g1 (g', none) ∧ (∀ k : Nat, k < 225 ∨ 237 ≤ k → g1 k = g k) ∧ (∀ k : Nat, k < 225 + 2 * b → g1 k = g k) ∧ ∀ i : Nat, b ≤ i → (i : Int) < g 211 3 → i < 6 → (∀ j : Nat, j < 6 → g1 (225 + 2 * i) j = g (17 + 2 * i) j) ∧ ∀ h : Nat, h < 8 → g1 (226 + 2 * i) h = g (18 + 2 * i) h
  | 0, _, _, _, _, _, _, h => (zr_0 h).elim
  | n + 1, lf, g, b, h0, h1, h2, h => by
    rcases c_case86_211_3 h h0 h1 h2 with ⟨x1, lx, z0, z1, z2, h⟩ | ⟨x1, ⟨x2, lx, z0, z1, z2, h⟩ | ⟨x2, h⟩⟩
    · exact ⟨n, g, lx, z0, z1, z2, h, fun _ _ => rfl, fun _ _ => rfl, fun i h1 h2 => by omega⟩
    · exact ⟨n, g, lx, z0, z1, z2, h, fun _ _ => rfl, fun _ _ => rfl, fun i h1 h2 => by omega⟩
    · obtain ⟨g7, k1, lx, z0, z1, z2, h⟩ := h (by omega) (by omega)
      obtain ⟨p1, p2, p3⟩ := cper_211_3 (b := b) (by omega) k1 rfl rfl
      obtain ⟨N, g1, lf1, y0, y1, y2, y3, y4, y5, y6⟩ := cpl_211_3 n (b := b + 1) z0 z1 (by rw [z2, w32_id (by omega) (by omega)]; rfl) h
      refine ⟨N, g1, lf1, y0, y1, y2, y3, fun k hk => (y4 k hk).trans (p1 k (by omega) (by omega)), fun k hk => (y5 k (by omega)).trans (p1 k (by omega) (by omega)), fun i i1 i2 i3 => ?_⟩
      by_cases e : i = b
      · subst e
        refine ⟨fun j hj => ?_, fun h hh => ?_⟩
        · rw [y5 _ (by omega)]; exact p2 j hj
        · rw [y5 _ (by omega)]; exact p3 h hh
      · have q := y6 i (by omega) (by rw [p1 211 (by omega) (by omega)]; exact i2) i3
        rw [p1 (17 + 2 * i) (by omega) (by omega), p1 (18 + 2 * i) (by omega) (by omega)] at q
        exact q
theorem col_211_3 {g' : cg} : ∀ (n : Nat) {lf : dlf} {g : cg} {b : Nat}, lf 0 = (4, 211) → lf 1 = (4, 3) → lf 2 = (0, (b : Int)) → zr sv L n 60 123 lf [] g (g', none) → (∀ k : Nat, k < 237 ∨ 253 ≤ k → g' k = g k) ∧ (∀ k : Nat, k < 237 + b → g' k = g k) ∧ ∀ i : Nat, b ≤ i → (i : Int) < g 211 9 → i < 16 → ∀ j : Nat, j < 8 → g' (237 + i) j = g (29 + i) j
  | 0, _, _, _, _, _, _, h => (zr_0 h).elim
  | n + 1, lf, g, b, h0, h1, h2, h => by
    rcases c_case123_211_3 h h0 h1 h2 with ⟨x1, h⟩ | ⟨x1, ⟨x2, h⟩ | ⟨x2, h⟩⟩
    · rw [oV h]
      exact ⟨fun _ _ => rfl, fun _ _ => rfl, fun i h1 h2 => by omega⟩
    · rw [oV h]
      exact ⟨fun _ _ => rfl, fun _ _ => rfl, fun i h1 h2 => by omega⟩
    · obtain ⟨g5, k1, lx, z0, z1, z2, h⟩ := h (by omega) (by omega)
      obtain ⟨p1, p2⟩ := coath_211_3 (b := b) (by omega) k1 rfl rfl
      obtain ⟨y4, y5, y6⟩ := col_211_3 n (b := b + 1) z0 z1 (by rw [z2, w32_id (by omega) (by omega)]; rfl) h
      refine ⟨fun k hk => (y4 k hk).trans (p1 k (by omega)), fun k hk => (y5 k (by omega)).trans (p1 k (by omega)), fun i i1 i2 i3 j hj => ?_⟩
      by_cases e : i = b
      · subst e
        rw [y5 _ (by omega)]; exact p2 j hj
      · rw [y6 i (by omega) (by rw [p1 211 (by omega)]; exact i2) i3 j hj, p1 (29 + i) (by omega)]
theorem call_211_3 {n : Nat} {lf : dlf} {g g' : cg} (h : zr sv L n 59 0 lf [] g (g', none)) (h0 : lf 0 = (4, 211)) (h1 : lf 1 = (4, 3)) : CPD 211 3 g g' := by
  obtain ⟨g1, k1, g2, k2, h⟩ := c_all_211_3 h h0 h1
  have e2 := oV h
  subst e2
  obtain ⟨lx, z0, z1, z2, k1⟩ := c_case0_211_3 k1 rfl rfl
  obtain ⟨N, g3, lf1, y0, y1, y2, k3, y4, -, y6⟩ := cpl_211_3 n (b := 0) z0 z1 z2 k1
  obtain ⟨w4, -, w6⟩ := col_211_3 N (b := 0) y0 y1 y2 k3
  have e := oV (c_tri_211_3 k2 rfl rfl)
  obtain ⟨t1, t2, t3⟩ := (show TCp 216 8 g1 g' by rw [e]; exact tcp_of (T := 216) (S := 8) (by omega))
  -- the plain fields
  generalize hg0 : ccp (ccp (cup (cup (cup (cup (cup (cup (cup g 211 0 (g 3 0)) 211 3 (g 3 3)) 211 5 (g 3 5)) 211 6 (g 3 6)) 211 7 (g 3 7)) 211 8 (g 3 8)) 211 9 (g 3 9)) 4 212 0 0 5) 5 213 0 0 5 = g0 at y4 y6
  have f0 : ∀ k : Nat, k ≠ 211 → k ≠ 212 → k ≠ 213 → g0 k = g k := fun k a1 a2 a3 => by
    rw [← hg0, ccp_row _ a3, ccp_row _ a2, cup_row _ _ _ a1, cup_row _ _ _ a1, cup_row _ _ _ a1, cup_row _ _ _ a1, cup_row _ _ _ a1, cup_row _ _ _ a1, cup_row _ _ _ a1]
  have fD : ∀ j : Nat, j = 0 ∨ j = 3 ∨ j = 5 ∨ j = 6 ∨ j = 7 ∨ j = 8 ∨ j = 9 → g0 211 j = g 3 j := fun j hj => by
    rw [← hg0, ccp_row _ (by decide), ccp_row _ (by decide)]
    rcases hj with e | e | e | e | e | e | e <;> subst e
    · rw [cup_ne (by omega), cup_ne (by omega), cup_ne (by omega), cup_ne (by omega), cup_ne (by omega), cup_ne (by omega), cup_at]
    · rw [cup_ne (by omega), cup_ne (by omega), cup_ne (by omega), cup_ne (by omega), cup_ne (by omega), cup_at]
    · rw [cup_ne (by omega), cup_ne (by omega), cup_ne (by omega), cup_ne (by omega), cup_at]
    · rw [cup_ne (by omega), cup_ne (by omega), cup_ne (by omega), cup_at]
    · rw [cup_ne (by omega), cup_ne (by omega), cup_at]
    · rw [cup_ne (by omega), cup_at]
    · rw [cup_at]
  have f1 : ∀ i : Nat, i < 5 → g0 212 i = g 4 i := fun i hi => by
    rw [← hg0, ccp_row _ (by decide), ccp_in (Nat.zero_le _) (by omega), show 0 + (i - 0) = i by omega, cup_row _ _ _ (by decide), cup_row _ _ _ (by decide), cup_row _ _ _ (by decide), cup_row _ _ _ (by decide), cup_row _ _ _ (by decide), cup_row _ _ _ (by decide), cup_row _ _ _ (by decide)]
  have f2 : ∀ i : Nat, i < 5 → g0 213 i = g 5 i := fun i hi => by
    rw [← hg0, ccp_in (Nat.zero_le _) (by omega), show 0 + (i - 0) = i by omega, ccp_row _ (by decide), cup_row _ _ _ (by decide), cup_row _ _ _ (by decide), cup_row _ _ _ (by decide), cup_row _ _ _ (by decide), cup_row _ _ _ (by decide), cup_row _ _ _ (by decide), cup_row _ _ _ (by decide)]
  have F : ∀ k : Nat, k < 216 ∨ 225 ≤ k → g' k = g1 k := fun k hk => t1 k (by omega)
  have G : ∀ k : Nat, k < 225 ∨ 253 ≤ k → g1 k = g0 k := fun k hk => (w4 k (by omega)).trans (y4 k (by omega))
  refine ⟨fun k hk => ?_, fun j hj => ?_, ⟨fun i hi => ?_, fun i hi => ?_⟩, fun i i1 i2 => ?_, fun i i1 i2 j hj => ?_, fun j hj => ?_, fun q r hq hr => ?_⟩
  · rw [F k (by omega), G k (by omega), f0 k (by omega) (by omega) (by omega)]
  · rw [F 211 (by omega), G 211 (by omega), fD j hj]
  · rw [F 212 (by omega), G 212 (by omega), f1 i hi]
  · rw [F 213 (by omega), G 213 (by omega), f2 i hi]
  · have q := y6 i (Nat.zero_le _) (by rw [fD 3 (by omega)]; exact i1) i2
    rw [f0 (17 + 2 * i) (by omega) (by omega) (by omega), f0 (18 + 2 * i) (by omega) (by omega) (by omega)] at q
    refine ⟨fun j hj => ?_, fun h hh => ?_⟩
    · rw [F (211 + 14 + 2 * i) (by omega), w4 (211 + 14 + 2 * i) (by omega)]; exact q.1 j hj
    · rw [F (211 + 15 + 2 * i) (by omega), w4 (211 + 15 + 2 * i) (by omega)]; exact q.2 h hh
  · rw [F (211 + 26 + i) (by omega), w6 i (Nat.zero_le _) (by rw [y4 211 (by omega), fD 9 (by omega)]; exact i1) i2 j hj, y4 (29 + i) (by omega), f0 (29 + i) (by omega) (by omega) (by omega)]
  · rw [show 211 + 5 = 216 from rfl, t2 j hj, G 8 (by omega), f0 8 (by omega) (by omega) (by omega)]
  · rw [show 211 + 6 + q = 216 + 1 + q by omega, t3 q r hq (by rw [G 8 (by omega), f0 8 (by omega) (by omega) (by omega)]; exact hr), G (8 + 1 + q) (by omega), f0 (8 + 1 + q) (by omega) (by omega) (by omega)]
end Cp211_3
section Cp3_127
variable {sv : Nat → Int32} {L : Nat}
theorem cper_3_127 {n : Nat} {lf : dlf} {g g' : cg} {b : Nat} (hb : b < 6) (h : zr sv L n 61 0 lf [] g (g', none)) (h0 : lf 0 = (4, (17 : Int) + 2 * (b : Int))) (h1 : lf 1 = (4, (141 : Int) + 2 * (b : Int))) : PCp (17 + 2 * b) (18 + 2 * b) (141 + 2 * b) (142 + 2 * b) g g' := by
  have e := oV (c_per_3_127 (i := (b : Int)) (by omega) (by omega) h h0 h1)
  rw [show ((17 : Int) + 2 * (b : Int)).toNat = 17 + 2 * b by omega, show ((141 : Int) + 2 * (b : Int)).toNat = 141 + 2 * b by omega, show ((18 : Int) + 2 * (b : Int)).toNat = 18 + 2 * b by omega, show ((142 : Int) + 2 * (b : Int)).toNat = 142 + 2 * b by omega] at e
  rw [e]
  exact pcp_of (by omega) (by omega) (by omega)
theorem coath_3_127 {n : Nat} {lf : dlf} {g g' : cg} {b : Nat} (hb : b < 16) (h : zr sv L n 62 0 lf [] g (g', none)) (h0 : lf 0 = (4, (29 : Int) + (b : Int))) (h1 : lf 1 = (4, (153 : Int) + (b : Int))) : OCp (29 + b) (153 + b) g g' := by
  have e := oV (c_oath_3_127 (i := (b : Int)) (by omega) (by omega) h h0 h1)
  rw [show ((29 : Int) + (b : Int)).toNat = 29 + b by omega, show ((153 : Int) + (b : Int)).toNat = 153 + b by omega] at e
  rw [e]
  exact ocp_of
theorem cpl_3_127 {g' : cg} : ∀ (n : Nat) {lf : dlf} {g : cg} {b : Nat}, lf 0 = (4, 3) → lf 1 = (4, 127) → lf 2 = (0, (b : Int)) → zr sv L n 60 86 lf [] g (g', none) → ∃ N g1 lf1, lf1 0 = (4, 3) ∧ lf1 1 = (4, 127) ∧ lf1 2 = (0, 0) ∧ zr sv L N 60 123 lf1 [] g1 (g', none) ∧ (∀ k : Nat, k < 17 ∨ 29 ≤ k → g1 k = g k) ∧ (∀ k : Nat, k < 17 + 2 * b → g1 k = g k) ∧ ∀ i : Nat, b ≤ i → (i : Int) < g 3 3 → i < 6 → (∀ j : Nat, j < 6 → g1 (17 + 2 * i) j = g (141 + 2 * i) j) ∧ ∀ h : Nat, h < 8 → g1 (18 + 2 * i) h = g (142 + 2 * i) h
  | 0, _, _, _, _, _, _, h => (zr_0 h).elim
  | n + 1, lf, g, b, h0, h1, h2, h => by
    rcases c_case86_3_127 h h0 h1 h2 with ⟨x1, lx, z0, z1, z2, h⟩ | ⟨x1, ⟨x2, lx, z0, z1, z2, h⟩ | ⟨x2, h⟩⟩
    · exact ⟨n, g, lx, z0, z1, z2, h, fun _ _ => rfl, fun _ _ => rfl, fun i h1 h2 => by omega⟩
    · exact ⟨n, g, lx, z0, z1, z2, h, fun _ _ => rfl, fun _ _ => rfl, fun i h1 h2 => by omega⟩
    · obtain ⟨g7, k1, lx, z0, z1, z2, h⟩ := h (by omega) (by omega)
      obtain ⟨p1, p2, p3⟩ := cper_3_127 (b := b) (by omega) k1 rfl rfl
      obtain ⟨N, g1, lf1, y0, y1, y2, y3, y4, y5, y6⟩ := cpl_3_127 n (b := b + 1) z0 z1 (by rw [z2, w32_id (by omega) (by omega)]; rfl) h
      refine ⟨N, g1, lf1, y0, y1, y2, y3, fun k hk => (y4 k hk).trans (p1 k (by omega) (by omega)), fun k hk => (y5 k (by omega)).trans (p1 k (by omega) (by omega)), fun i i1 i2 i3 => ?_⟩
      by_cases e : i = b
      · subst e
        refine ⟨fun j hj => ?_, fun h hh => ?_⟩
        · rw [y5 _ (by omega)]; exact p2 j hj
        · rw [y5 _ (by omega)]; exact p3 h hh
      · have q := y6 i (by omega) (by rw [p1 3 (by omega) (by omega)]; exact i2) i3
        rw [p1 (141 + 2 * i) (by omega) (by omega), p1 (142 + 2 * i) (by omega) (by omega)] at q
        exact q
theorem col_3_127 {g' : cg} : ∀ (n : Nat) {lf : dlf} {g : cg} {b : Nat}, lf 0 = (4, 3) → lf 1 = (4, 127) → lf 2 = (0, (b : Int)) → zr sv L n 60 123 lf [] g (g', none) → (∀ k : Nat, k < 29 ∨ 45 ≤ k → g' k = g k) ∧ (∀ k : Nat, k < 29 + b → g' k = g k) ∧ ∀ i : Nat, b ≤ i → (i : Int) < g 3 9 → i < 16 → ∀ j : Nat, j < 8 → g' (29 + i) j = g (153 + i) j
  | 0, _, _, _, _, _, _, h => (zr_0 h).elim
  | n + 1, lf, g, b, h0, h1, h2, h => by
    rcases c_case123_3_127 h h0 h1 h2 with ⟨x1, h⟩ | ⟨x1, ⟨x2, h⟩ | ⟨x2, h⟩⟩
    · rw [oV h]
      exact ⟨fun _ _ => rfl, fun _ _ => rfl, fun i h1 h2 => by omega⟩
    · rw [oV h]
      exact ⟨fun _ _ => rfl, fun _ _ => rfl, fun i h1 h2 => by omega⟩
    · obtain ⟨g5, k1, lx, z0, z1, z2, h⟩ := h (by omega) (by omega)
      obtain ⟨p1, p2⟩ := coath_3_127 (b := b) (by omega) k1 rfl rfl
      obtain ⟨y4, y5, y6⟩ := col_3_127 n (b := b + 1) z0 z1 (by rw [z2, w32_id (by omega) (by omega)]; rfl) h
      refine ⟨fun k hk => (y4 k hk).trans (p1 k (by omega)), fun k hk => (y5 k (by omega)).trans (p1 k (by omega)), fun i i1 i2 i3 j hj => ?_⟩
      by_cases e : i = b
      · subst e
        rw [y5 _ (by omega)]; exact p2 j hj
      · rw [y6 i (by omega) (by rw [p1 3 (by omega)]; exact i2) i3 j hj, p1 (153 + i) (by omega)]
theorem call_3_127 {n : Nat} {lf : dlf} {g g' : cg} (h : zr sv L n 59 0 lf [] g (g', none)) (h0 : lf 0 = (4, 3)) (h1 : lf 1 = (4, 127)) : CPD 3 127 g g' := by
  obtain ⟨g1, k1, g2, k2, h⟩ := c_all_3_127 h h0 h1
  have e2 := oV h
  subst e2
  obtain ⟨lx, z0, z1, z2, k1⟩ := c_case0_3_127 k1 rfl rfl
  obtain ⟨N, g3, lf1, y0, y1, y2, k3, y4, -, y6⟩ := cpl_3_127 n (b := 0) z0 z1 z2 k1
  obtain ⟨w4, -, w6⟩ := col_3_127 N (b := 0) y0 y1 y2 k3
  have e := oV (c_tri_3_127 k2 rfl rfl)
  obtain ⟨t1, t2, t3⟩ := (show TCp 8 132 g1 g' by rw [e]; exact tcp_of (T := 8) (S := 132) (by omega))
  -- the plain fields
  generalize hg0 : ccp (ccp (cup (cup (cup (cup (cup (cup (cup g 3 0 (g 127 0)) 3 3 (g 127 3)) 3 5 (g 127 5)) 3 6 (g 127 6)) 3 7 (g 127 7)) 3 8 (g 127 8)) 3 9 (g 127 9)) 128 4 0 0 5) 129 5 0 0 5 = g0 at y4 y6
  have f0 : ∀ k : Nat, k ≠ 3 → k ≠ 4 → k ≠ 5 → g0 k = g k := fun k a1 a2 a3 => by
    rw [← hg0, ccp_row _ a3, ccp_row _ a2, cup_row _ _ _ a1, cup_row _ _ _ a1, cup_row _ _ _ a1, cup_row _ _ _ a1, cup_row _ _ _ a1, cup_row _ _ _ a1, cup_row _ _ _ a1]
  have fD : ∀ j : Nat, j = 0 ∨ j = 3 ∨ j = 5 ∨ j = 6 ∨ j = 7 ∨ j = 8 ∨ j = 9 → g0 3 j = g 127 j := fun j hj => by
    rw [← hg0, ccp_row _ (by decide), ccp_row _ (by decide)]
    rcases hj with e | e | e | e | e | e | e <;> subst e
    · rw [cup_ne (by omega), cup_ne (by omega), cup_ne (by omega), cup_ne (by omega), cup_ne (by omega), cup_ne (by omega), cup_at]
    · rw [cup_ne (by omega), cup_ne (by omega), cup_ne (by omega), cup_ne (by omega), cup_ne (by omega), cup_at]
    · rw [cup_ne (by omega), cup_ne (by omega), cup_ne (by omega), cup_ne (by omega), cup_at]
    · rw [cup_ne (by omega), cup_ne (by omega), cup_ne (by omega), cup_at]
    · rw [cup_ne (by omega), cup_ne (by omega), cup_at]
    · rw [cup_ne (by omega), cup_at]
    · rw [cup_at]
  have f1 : ∀ i : Nat, i < 5 → g0 4 i = g 128 i := fun i hi => by
    rw [← hg0, ccp_row _ (by decide), ccp_in (Nat.zero_le _) (by omega), show 0 + (i - 0) = i by omega, cup_row _ _ _ (by decide), cup_row _ _ _ (by decide), cup_row _ _ _ (by decide), cup_row _ _ _ (by decide), cup_row _ _ _ (by decide), cup_row _ _ _ (by decide), cup_row _ _ _ (by decide)]
  have f2 : ∀ i : Nat, i < 5 → g0 5 i = g 129 i := fun i hi => by
    rw [← hg0, ccp_in (Nat.zero_le _) (by omega), show 0 + (i - 0) = i by omega, ccp_row _ (by decide), cup_row _ _ _ (by decide), cup_row _ _ _ (by decide), cup_row _ _ _ (by decide), cup_row _ _ _ (by decide), cup_row _ _ _ (by decide), cup_row _ _ _ (by decide), cup_row _ _ _ (by decide)]
  have F : ∀ k : Nat, k < 8 ∨ 17 ≤ k → g' k = g1 k := fun k hk => t1 k (by omega)
  have G : ∀ k : Nat, k < 17 ∨ 45 ≤ k → g1 k = g0 k := fun k hk => (w4 k (by omega)).trans (y4 k (by omega))
  refine ⟨fun k hk => ?_, fun j hj => ?_, ⟨fun i hi => ?_, fun i hi => ?_⟩, fun i i1 i2 => ?_, fun i i1 i2 j hj => ?_, fun j hj => ?_, fun q r hq hr => ?_⟩
  · rw [F k (by omega), G k (by omega), f0 k (by omega) (by omega) (by omega)]
  · rw [F 3 (by omega), G 3 (by omega), fD j hj]
  · rw [F 4 (by omega), G 4 (by omega), f1 i hi]
  · rw [F 5 (by omega), G 5 (by omega), f2 i hi]
  · have q := y6 i (Nat.zero_le _) (by rw [fD 3 (by omega)]; exact i1) i2
    rw [f0 (141 + 2 * i) (by omega) (by omega) (by omega), f0 (142 + 2 * i) (by omega) (by omega) (by omega)] at q
    refine ⟨fun j hj => ?_, fun h hh => ?_⟩
    · rw [F (3 + 14 + 2 * i) (by omega), w4 (3 + 14 + 2 * i) (by omega)]; exact q.1 j hj
    · rw [F (3 + 15 + 2 * i) (by omega), w4 (3 + 15 + 2 * i) (by omega)]; exact q.2 h hh
  · rw [F (3 + 26 + i) (by omega), w6 i (Nat.zero_le _) (by rw [y4 3 (by omega), fD 9 (by omega)]; exact i1) i2 j hj, y4 (153 + i) (by omega), f0 (153 + i) (by omega) (by omega) (by omega)]
  · rw [show 3 + 5 = 8 from rfl, t2 j hj, G 132 (by omega), f0 132 (by omega) (by omega) (by omega)]
  · rw [show 3 + 6 + q = 8 + 1 + q by omega, t3 q r hq (by rw [G 132 (by omega), f0 132 (by omega) (by omega) (by omega)]; exact hr), G (132 + 1 + q) (by omega), f0 (132 + 1 + q) (by omega) (by omega) (by omega)]
end Cp3_127
section Cp3_169
variable {sv : Nat → Int32} {L : Nat}
theorem cper_3_169 {n : Nat} {lf : dlf} {g g' : cg} {b : Nat} (hb : b < 6) (h : zr sv L n 61 0 lf [] g (g', none)) (h0 : lf 0 = (4, (17 : Int) + 2 * (b : Int))) (h1 : lf 1 = (4, (183 : Int) + 2 * (b : Int))) : PCp (17 + 2 * b) (18 + 2 * b) (183 + 2 * b) (184 + 2 * b) g g' := by
  have e := oV (c_per_3_169 (i := (b : Int)) (by omega) (by omega) h h0 h1)
  rw [show ((17 : Int) + 2 * (b : Int)).toNat = 17 + 2 * b by omega, show ((183 : Int) + 2 * (b : Int)).toNat = 183 + 2 * b by omega, show ((18 : Int) + 2 * (b : Int)).toNat = 18 + 2 * b by omega, show ((184 : Int) + 2 * (b : Int)).toNat = 184 + 2 * b by omega] at e
  rw [e]
  exact pcp_of (by omega) (by omega) (by omega)
theorem coath_3_169 {n : Nat} {lf : dlf} {g g' : cg} {b : Nat} (hb : b < 16) (h : zr sv L n 62 0 lf [] g (g', none)) (h0 : lf 0 = (4, (29 : Int) + (b : Int))) (h1 : lf 1 = (4, (195 : Int) + (b : Int))) : OCp (29 + b) (195 + b) g g' := by
  have e := oV (c_oath_3_169 (i := (b : Int)) (by omega) (by omega) h h0 h1)
  rw [show ((29 : Int) + (b : Int)).toNat = 29 + b by omega, show ((195 : Int) + (b : Int)).toNat = 195 + b by omega] at e
  rw [e]
  exact ocp_of
theorem cpl_3_169 {g' : cg} : ∀ (n : Nat) {lf : dlf} {g : cg} {b : Nat}, lf 0 = (4, 3) → lf 1 = (4, 169) → lf 2 = (0, (b : Int)) → zr sv L n 60 86 lf [] g (g', none) → ∃ N g1 lf1, lf1 0 = (4, 3) ∧ lf1 1 = (4, 169) ∧ lf1 2 = (0, 0) ∧ zr sv L N 60 123 lf1 [] g1 (g', none) ∧ (∀ k : Nat, k < 17 ∨ 29 ≤ k → g1 k = g k) ∧ (∀ k : Nat, k < 17 + 2 * b → g1 k = g k) ∧ ∀ i : Nat, b ≤ i → (i : Int) < g 3 3 → i < 6 → (∀ j : Nat, j < 6 → g1 (17 + 2 * i) j = g (183 + 2 * i) j) ∧ ∀ h : Nat, h < 8 → g1 (18 + 2 * i) h = g (184 + 2 * i) h
  | 0, _, _, _, _, _, _, h => (zr_0 h).elim
  | n + 1, lf, g, b, h0, h1, h2, h => by
    rcases c_case86_3_169 h h0 h1 h2 with ⟨x1, lx, z0, z1, z2, h⟩ | ⟨x1, ⟨x2, lx, z0, z1, z2, h⟩ | ⟨x2, h⟩⟩
    · exact ⟨n, g, lx, z0, z1, z2, h, fun _ _ => rfl, fun _ _ => rfl, fun i h1 h2 => by omega⟩
    · exact ⟨n, g, lx, z0, z1, z2, h, fun _ _ => rfl, fun _ _ => rfl, fun i h1 h2 => by omega⟩
    · obtain ⟨g7, k1, lx, z0, z1, z2, h⟩ := h (by omega) (by omega)
      obtain ⟨p1, p2, p3⟩ := cper_3_169 (b := b) (by omega) k1 rfl rfl
      obtain ⟨N, g1, lf1, y0, y1, y2, y3, y4, y5, y6⟩ := cpl_3_169 n (b := b + 1) z0 z1 (by rw [z2, w32_id (by omega) (by omega)]; rfl) h
      refine ⟨N, g1, lf1, y0, y1, y2, y3, fun k hk => (y4 k hk).trans (p1 k (by omega) (by omega)), fun k hk => (y5 k (by omega)).trans (p1 k (by omega) (by omega)), fun i i1 i2 i3 => ?_⟩
      by_cases e : i = b
      · subst e
        refine ⟨fun j hj => ?_, fun h hh => ?_⟩
        · rw [y5 _ (by omega)]; exact p2 j hj
        · rw [y5 _ (by omega)]; exact p3 h hh
      · have q := y6 i (by omega) (by rw [p1 3 (by omega) (by omega)]; exact i2) i3
        rw [p1 (183 + 2 * i) (by omega) (by omega), p1 (184 + 2 * i) (by omega) (by omega)] at q
        exact q
theorem col_3_169 {g' : cg} : ∀ (n : Nat) {lf : dlf} {g : cg} {b : Nat}, lf 0 = (4, 3) → lf 1 = (4, 169) → lf 2 = (0, (b : Int)) → zr sv L n 60 123 lf [] g (g', none) → (∀ k : Nat, k < 29 ∨ 45 ≤ k → g' k = g k) ∧ (∀ k : Nat, k < 29 + b → g' k = g k) ∧ ∀ i : Nat, b ≤ i → (i : Int) < g 3 9 → i < 16 → ∀ j : Nat, j < 8 → g' (29 + i) j = g (195 + i) j
  | 0, _, _, _, _, _, _, h => (zr_0 h).elim
  | n + 1, lf, g, b, h0, h1, h2, h => by
    rcases c_case123_3_169 h h0 h1 h2 with ⟨x1, h⟩ | ⟨x1, ⟨x2, h⟩ | ⟨x2, h⟩⟩
    · rw [oV h]
      exact ⟨fun _ _ => rfl, fun _ _ => rfl, fun i h1 h2 => by omega⟩
    · rw [oV h]
      exact ⟨fun _ _ => rfl, fun _ _ => rfl, fun i h1 h2 => by omega⟩
    · obtain ⟨g5, k1, lx, z0, z1, z2, h⟩ := h (by omega) (by omega)
      obtain ⟨p1, p2⟩ := coath_3_169 (b := b) (by omega) k1 rfl rfl
      obtain ⟨y4, y5, y6⟩ := col_3_169 n (b := b + 1) z0 z1 (by rw [z2, w32_id (by omega) (by omega)]; rfl) h
      refine ⟨fun k hk => (y4 k hk).trans (p1 k (by omega)), fun k hk => (y5 k (by omega)).trans (p1 k (by omega)), fun i i1 i2 i3 j hj => ?_⟩
      by_cases e : i = b
      · subst e
        rw [y5 _ (by omega)]; exact p2 j hj
      · rw [y6 i (by omega) (by rw [p1 3 (by omega)]; exact i2) i3 j hj, p1 (195 + i) (by omega)]
theorem call_3_169 {n : Nat} {lf : dlf} {g g' : cg} (h : zr sv L n 59 0 lf [] g (g', none)) (h0 : lf 0 = (4, 3)) (h1 : lf 1 = (4, 169)) : CPD 3 169 g g' := by
  obtain ⟨g1, k1, g2, k2, h⟩ := c_all_3_169 h h0 h1
  have e2 := oV h
  subst e2
  obtain ⟨lx, z0, z1, z2, k1⟩ := c_case0_3_169 k1 rfl rfl
  obtain ⟨N, g3, lf1, y0, y1, y2, k3, y4, -, y6⟩ := cpl_3_169 n (b := 0) z0 z1 z2 k1
  obtain ⟨w4, -, w6⟩ := col_3_169 N (b := 0) y0 y1 y2 k3
  have e := oV (c_tri_3_169 k2 rfl rfl)
  obtain ⟨t1, t2, t3⟩ := (show TCp 8 174 g1 g' by rw [e]; exact tcp_of (T := 8) (S := 174) (by omega))
  -- the plain fields
  generalize hg0 : ccp (ccp (cup (cup (cup (cup (cup (cup (cup g 3 0 (g 169 0)) 3 3 (g 169 3)) 3 5 (g 169 5)) 3 6 (g 169 6)) 3 7 (g 169 7)) 3 8 (g 169 8)) 3 9 (g 169 9)) 170 4 0 0 5) 171 5 0 0 5 = g0 at y4 y6
  have f0 : ∀ k : Nat, k ≠ 3 → k ≠ 4 → k ≠ 5 → g0 k = g k := fun k a1 a2 a3 => by
    rw [← hg0, ccp_row _ a3, ccp_row _ a2, cup_row _ _ _ a1, cup_row _ _ _ a1, cup_row _ _ _ a1, cup_row _ _ _ a1, cup_row _ _ _ a1, cup_row _ _ _ a1, cup_row _ _ _ a1]
  have fD : ∀ j : Nat, j = 0 ∨ j = 3 ∨ j = 5 ∨ j = 6 ∨ j = 7 ∨ j = 8 ∨ j = 9 → g0 3 j = g 169 j := fun j hj => by
    rw [← hg0, ccp_row _ (by decide), ccp_row _ (by decide)]
    rcases hj with e | e | e | e | e | e | e <;> subst e
    · rw [cup_ne (by omega), cup_ne (by omega), cup_ne (by omega), cup_ne (by omega), cup_ne (by omega), cup_ne (by omega), cup_at]
    · rw [cup_ne (by omega), cup_ne (by omega), cup_ne (by omega), cup_ne (by omega), cup_ne (by omega), cup_at]
    · rw [cup_ne (by omega), cup_ne (by omega), cup_ne (by omega), cup_ne (by omega), cup_at]
    · rw [cup_ne (by omega), cup_ne (by omega), cup_ne (by omega), cup_at]
    · rw [cup_ne (by omega), cup_ne (by omega), cup_at]
    · rw [cup_ne (by omega), cup_at]
    · rw [cup_at]
  have f1 : ∀ i : Nat, i < 5 → g0 4 i = g 170 i := fun i hi => by
    rw [← hg0, ccp_row _ (by decide), ccp_in (Nat.zero_le _) (by omega), show 0 + (i - 0) = i by omega, cup_row _ _ _ (by decide), cup_row _ _ _ (by decide), cup_row _ _ _ (by decide), cup_row _ _ _ (by decide), cup_row _ _ _ (by decide), cup_row _ _ _ (by decide), cup_row _ _ _ (by decide)]
  have f2 : ∀ i : Nat, i < 5 → g0 5 i = g 171 i := fun i hi => by
    rw [← hg0, ccp_in (Nat.zero_le _) (by omega), show 0 + (i - 0) = i by omega, ccp_row _ (by decide), cup_row _ _ _ (by decide), cup_row _ _ _ (by decide), cup_row _ _ _ (by decide), cup_row _ _ _ (by decide), cup_row _ _ _ (by decide), cup_row _ _ _ (by decide), cup_row _ _ _ (by decide)]
  have F : ∀ k : Nat, k < 8 ∨ 17 ≤ k → g' k = g1 k := fun k hk => t1 k (by omega)
  have G : ∀ k : Nat, k < 17 ∨ 45 ≤ k → g1 k = g0 k := fun k hk => (w4 k (by omega)).trans (y4 k (by omega))
  refine ⟨fun k hk => ?_, fun j hj => ?_, ⟨fun i hi => ?_, fun i hi => ?_⟩, fun i i1 i2 => ?_, fun i i1 i2 j hj => ?_, fun j hj => ?_, fun q r hq hr => ?_⟩
  · rw [F k (by omega), G k (by omega), f0 k (by omega) (by omega) (by omega)]
  · rw [F 3 (by omega), G 3 (by omega), fD j hj]
  · rw [F 4 (by omega), G 4 (by omega), f1 i hi]
  · rw [F 5 (by omega), G 5 (by omega), f2 i hi]
  · have q := y6 i (Nat.zero_le _) (by rw [fD 3 (by omega)]; exact i1) i2
    rw [f0 (183 + 2 * i) (by omega) (by omega) (by omega), f0 (184 + 2 * i) (by omega) (by omega) (by omega)] at q
    refine ⟨fun j hj => ?_, fun h hh => ?_⟩
    · rw [F (3 + 14 + 2 * i) (by omega), w4 (3 + 14 + 2 * i) (by omega)]; exact q.1 j hj
    · rw [F (3 + 15 + 2 * i) (by omega), w4 (3 + 15 + 2 * i) (by omega)]; exact q.2 h hh
  · rw [F (3 + 26 + i) (by omega), w6 i (Nat.zero_le _) (by rw [y4 3 (by omega), fD 9 (by omega)]; exact i1) i2 j hj, y4 (195 + i) (by omega), f0 (195 + i) (by omega) (by omega) (by omega)]
  · rw [show 3 + 5 = 8 from rfl, t2 j hj, G 174 (by omega), f0 174 (by omega) (by omega) (by omega)]
  · rw [show 3 + 6 + q = 8 + 1 + q by omega, t3 q r hq (by rw [G 174 (by omega), f0 174 (by omega) (by omega) (by omega)]; exact hr), G (174 + 1 + q) (by omega), f0 (174 + 1 + q) (by omega) (by omega) (by omega)]
end Cp3_169
section Cp3_211
variable {sv : Nat → Int32} {L : Nat}
theorem cper_3_211 {n : Nat} {lf : dlf} {g g' : cg} {b : Nat} (hb : b < 6) (h : zr sv L n 61 0 lf [] g (g', none)) (h0 : lf 0 = (4, (17 : Int) + 2 * (b : Int))) (h1 : lf 1 = (4, (225 : Int) + 2 * (b : Int))) : PCp (17 + 2 * b) (18 + 2 * b) (225 + 2 * b) (226 + 2 * b) g g' := by
  have e := oV (c_per_3_211 (i := (b : Int)) (by omega) (by omega) h h0 h1)
  rw [show ((17 : Int) + 2 * (b : Int)).toNat = 17 + 2 * b by omega, show ((225 : Int) + 2 * (b : Int)).toNat = 225 + 2 * b by omega, show ((18 : Int) + 2 * (b : Int)).toNat = 18 + 2 * b by omega, show ((226 : Int) + 2 * (b : Int)).toNat = 226 + 2 * b by omega] at e
  rw [e]
  exact pcp_of (by omega) (by omega) (by omega)
theorem coath_3_211 {n : Nat} {lf : dlf} {g g' : cg} {b : Nat} (hb : b < 16) (h : zr sv L n 62 0 lf [] g (g', none)) (h0 : lf 0 = (4, (29 : Int) + (b : Int))) (h1 : lf 1 = (4, (237 : Int) + (b : Int))) : OCp (29 + b) (237 + b) g g' := by
  have e := oV (c_oath_3_211 (i := (b : Int)) (by omega) (by omega) h h0 h1)
  rw [show ((29 : Int) + (b : Int)).toNat = 29 + b by omega, show ((237 : Int) + (b : Int)).toNat = 237 + b by omega] at e
  rw [e]
  exact ocp_of
theorem cpl_3_211 {g' : cg} : ∀ (n : Nat) {lf : dlf} {g : cg} {b : Nat}, lf 0 = (4, 3) → lf 1 = (4, 211) → lf 2 = (0, (b : Int)) → zr sv L n 60 86 lf [] g (g', none) → ∃ N g1 lf1, lf1 0 = (4, 3) ∧ lf1 1 = (4, 211) ∧ lf1 2 = (0, 0) ∧ zr sv L N 60 123 lf1 [] g1 (g', none) ∧ (∀ k : Nat, k < 17 ∨ 29 ≤ k → g1 k = g k) ∧ (∀ k : Nat, k < 17 + 2 * b → g1 k = g k) ∧ ∀ i : Nat, b ≤ i → (i : Int) < g 3 3 → i < 6 → (∀ j : Nat, j < 6 → g1 (17 + 2 * i) j = g (225 + 2 * i) j) ∧ ∀ h : Nat, h < 8 → g1 (18 + 2 * i) h = g (226 + 2 * i) h
  | 0, _, _, _, _, _, _, h => (zr_0 h).elim
  | n + 1, lf, g, b, h0, h1, h2, h => by
    rcases c_case86_3_211 h h0 h1 h2 with ⟨x1, lx, z0, z1, z2, h⟩ | ⟨x1, ⟨x2, lx, z0, z1, z2, h⟩ | ⟨x2, h⟩⟩
    · exact ⟨n, g, lx, z0, z1, z2, h, fun _ _ => rfl, fun _ _ => rfl, fun i h1 h2 => by omega⟩
    · exact ⟨n, g, lx, z0, z1, z2, h, fun _ _ => rfl, fun _ _ => rfl, fun i h1 h2 => by omega⟩
    · obtain ⟨g7, k1, lx, z0, z1, z2, h⟩ := h (by omega) (by omega)
      obtain ⟨p1, p2, p3⟩ := cper_3_211 (b := b) (by omega) k1 rfl rfl
      obtain ⟨N, g1, lf1, y0, y1, y2, y3, y4, y5, y6⟩ := cpl_3_211 n (b := b + 1) z0 z1 (by rw [z2, w32_id (by omega) (by omega)]; rfl) h
      refine ⟨N, g1, lf1, y0, y1, y2, y3, fun k hk => (y4 k hk).trans (p1 k (by omega) (by omega)), fun k hk => (y5 k (by omega)).trans (p1 k (by omega) (by omega)), fun i i1 i2 i3 => ?_⟩
      by_cases e : i = b
      · subst e
        refine ⟨fun j hj => ?_, fun h hh => ?_⟩
        · rw [y5 _ (by omega)]; exact p2 j hj
        · rw [y5 _ (by omega)]; exact p3 h hh
      · have q := y6 i (by omega) (by rw [p1 3 (by omega) (by omega)]; exact i2) i3
        rw [p1 (225 + 2 * i) (by omega) (by omega), p1 (226 + 2 * i) (by omega) (by omega)] at q
        exact q
theorem col_3_211 {g' : cg} : ∀ (n : Nat) {lf : dlf} {g : cg} {b : Nat}, lf 0 = (4, 3) → lf 1 = (4, 211) → lf 2 = (0, (b : Int)) → zr sv L n 60 123 lf [] g (g', none) → (∀ k : Nat, k < 29 ∨ 45 ≤ k → g' k = g k) ∧ (∀ k : Nat, k < 29 + b → g' k = g k) ∧ ∀ i : Nat, b ≤ i → (i : Int) < g 3 9 → i < 16 → ∀ j : Nat, j < 8 → g' (29 + i) j = g (237 + i) j
  | 0, _, _, _, _, _, _, h => (zr_0 h).elim
  | n + 1, lf, g, b, h0, h1, h2, h => by
    rcases c_case123_3_211 h h0 h1 h2 with ⟨x1, h⟩ | ⟨x1, ⟨x2, h⟩ | ⟨x2, h⟩⟩
    · rw [oV h]
      exact ⟨fun _ _ => rfl, fun _ _ => rfl, fun i h1 h2 => by omega⟩
    · rw [oV h]
      exact ⟨fun _ _ => rfl, fun _ _ => rfl, fun i h1 h2 => by omega⟩
    · obtain ⟨g5, k1, lx, z0, z1, z2, h⟩ := h (by omega) (by omega)
      obtain ⟨p1, p2⟩ := coath_3_211 (b := b) (by omega) k1 rfl rfl
      obtain ⟨y4, y5, y6⟩ := col_3_211 n (b := b + 1) z0 z1 (by rw [z2, w32_id (by omega) (by omega)]; rfl) h
      refine ⟨fun k hk => (y4 k hk).trans (p1 k (by omega)), fun k hk => (y5 k (by omega)).trans (p1 k (by omega)), fun i i1 i2 i3 j hj => ?_⟩
      by_cases e : i = b
      · subst e
        rw [y5 _ (by omega)]; exact p2 j hj
      · rw [y6 i (by omega) (by rw [p1 3 (by omega)]; exact i2) i3 j hj, p1 (237 + i) (by omega)]
theorem call_3_211 {n : Nat} {lf : dlf} {g g' : cg} (h : zr sv L n 59 0 lf [] g (g', none)) (h0 : lf 0 = (4, 3)) (h1 : lf 1 = (4, 211)) : CPD 3 211 g g' := by
  obtain ⟨g1, k1, g2, k2, h⟩ := c_all_3_211 h h0 h1
  have e2 := oV h
  subst e2
  obtain ⟨lx, z0, z1, z2, k1⟩ := c_case0_3_211 k1 rfl rfl
  obtain ⟨N, g3, lf1, y0, y1, y2, k3, y4, -, y6⟩ := cpl_3_211 n (b := 0) z0 z1 z2 k1
  obtain ⟨w4, -, w6⟩ := col_3_211 N (b := 0) y0 y1 y2 k3
  have e := oV (c_tri_3_211 k2 rfl rfl)
  obtain ⟨t1, t2, t3⟩ := (show TCp 8 216 g1 g' by rw [e]; exact tcp_of (T := 8) (S := 216) (by omega))
  -- the plain fields
  generalize hg0 : ccp (ccp (cup (cup (cup (cup (cup (cup (cup g 3 0 (g 211 0)) 3 3 (g 211 3)) 3 5 (g 211 5)) 3 6 (g 211 6)) 3 7 (g 211 7)) 3 8 (g 211 8)) 3 9 (g 211 9)) 212 4 0 0 5) 213 5 0 0 5 = g0 at y4 y6
  have f0 : ∀ k : Nat, k ≠ 3 → k ≠ 4 → k ≠ 5 → g0 k = g k := fun k a1 a2 a3 => by
    rw [← hg0, ccp_row _ a3, ccp_row _ a2, cup_row _ _ _ a1, cup_row _ _ _ a1, cup_row _ _ _ a1, cup_row _ _ _ a1, cup_row _ _ _ a1, cup_row _ _ _ a1, cup_row _ _ _ a1]
  have fD : ∀ j : Nat, j = 0 ∨ j = 3 ∨ j = 5 ∨ j = 6 ∨ j = 7 ∨ j = 8 ∨ j = 9 → g0 3 j = g 211 j := fun j hj => by
    rw [← hg0, ccp_row _ (by decide), ccp_row _ (by decide)]
    rcases hj with e | e | e | e | e | e | e <;> subst e
    · rw [cup_ne (by omega), cup_ne (by omega), cup_ne (by omega), cup_ne (by omega), cup_ne (by omega), cup_ne (by omega), cup_at]
    · rw [cup_ne (by omega), cup_ne (by omega), cup_ne (by omega), cup_ne (by omega), cup_ne (by omega), cup_at]
    · rw [cup_ne (by omega), cup_ne (by omega), cup_ne (by omega), cup_ne (by omega), cup_at]
    · rw [cup_ne (by omega), cup_ne (by omega), cup_ne (by omega), cup_at]
    · rw [cup_ne (by omega), cup_ne (by omega), cup_at]
    · rw [cup_ne (by omega), cup_at]
    · rw [cup_at]
  have f1 : ∀ i : Nat, i < 5 → g0 4 i = g 212 i := fun i hi => by
    rw [← hg0, ccp_row _ (by decide), ccp_in (Nat.zero_le _) (by omega), show 0 + (i - 0) = i by omega, cup_row _ _ _ (by decide), cup_row _ _ _ (by decide), cup_row _ _ _ (by decide), cup_row _ _ _ (by decide), cup_row _ _ _ (by decide), cup_row _ _ _ (by decide), cup_row _ _ _ (by decide)]
  have f2 : ∀ i : Nat, i < 5 → g0 5 i = g 213 i := fun i hi => by
    rw [← hg0, ccp_in (Nat.zero_le _) (by omega), show 0 + (i - 0) = i by omega, ccp_row _ (by decide), cup_row _ _ _ (by decide), cup_row _ _ _ (by decide), cup_row _ _ _ (by decide), cup_row _ _ _ (by decide), cup_row _ _ _ (by decide), cup_row _ _ _ (by decide), cup_row _ _ _ (by decide)]
  have F : ∀ k : Nat, k < 8 ∨ 17 ≤ k → g' k = g1 k := fun k hk => t1 k (by omega)
  have G : ∀ k : Nat, k < 17 ∨ 45 ≤ k → g1 k = g0 k := fun k hk => (w4 k (by omega)).trans (y4 k (by omega))
  refine ⟨fun k hk => ?_, fun j hj => ?_, ⟨fun i hi => ?_, fun i hi => ?_⟩, fun i i1 i2 => ?_, fun i i1 i2 j hj => ?_, fun j hj => ?_, fun q r hq hr => ?_⟩
  · rw [F k (by omega), G k (by omega), f0 k (by omega) (by omega) (by omega)]
  · rw [F 3 (by omega), G 3 (by omega), fD j hj]
  · rw [F 4 (by omega), G 4 (by omega), f1 i hi]
  · rw [F 5 (by omega), G 5 (by omega), f2 i hi]
  · have q := y6 i (Nat.zero_le _) (by rw [fD 3 (by omega)]; exact i1) i2
    rw [f0 (225 + 2 * i) (by omega) (by omega) (by omega), f0 (226 + 2 * i) (by omega) (by omega) (by omega)] at q
    refine ⟨fun j hj => ?_, fun h hh => ?_⟩
    · rw [F (3 + 14 + 2 * i) (by omega), w4 (3 + 14 + 2 * i) (by omega)]; exact q.1 j hj
    · rw [F (3 + 15 + 2 * i) (by omega), w4 (3 + 15 + 2 * i) (by omega)]; exact q.2 h hh
  · rw [F (3 + 26 + i) (by omega), w6 i (Nat.zero_le _) (by rw [y4 3 (by omega), fD 9 (by omega)]; exact i1) i2 j hj, y4 (237 + i) (by omega), f0 (237 + i) (by omega) (by omega) (by omega)]
  · rw [show 3 + 5 = 8 from rfl, t2 j hj, G 216 (by omega), f0 216 (by omega) (by omega) (by omega)]
  · rw [show 3 + 6 + q = 8 + 1 + q by omega, t3 q r hq (by rw [G 216 (by omega), f0 216 (by omega) (by omega) (by omega)]; exact hr), G (216 + 1 + q) (by omega), f0 (216 + 1 + q) (by omega) (by omega) (by omega)]
end Cp3_211
