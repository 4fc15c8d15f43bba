/-! both readers of a court, from their beginning to their end -/
theorem ccp_ne {g : cg} {ka kb sp dp m k j : Nat} (h : k ≠ kb) : ccp g ka kb sp dp m k j = g k j := if_neg (fun e => h e.1)
theorem by8 : ∀ k : Nat, k < 256 → (i32 ((k : Int) - 128)).toInt8.toInt32.toInt = (k : Int) - 128 := by decide +kernel
theorem by8i {x : Int} (h0 : -128 ≤ x) (h1 : x ≤ 127) : (i32 x).toInt8.toInt32.toInt = x := by
  have h := by8 (x + 128).toNat (by omega)
  rw [show (((x + 128).toNat : Nat) : Int) - 128 = x by omega] at h
  exact h
theorem tq_end {c d : cg} {m : Nat} (hT : TQ c d m) (h : (m : Int) ≤ c 88 5) : c 88 4 = 0 := by
  obtain ⟨p, hp, hp', hpm, hT⟩ := hT
  rcases hT with ⟨a1, a2, a3⟩ | ⟨q, a1, a2, a3⟩ | ⟨q, a1, a2, a3⟩ | ⟨q, a1, a2, a3⟩ | ⟨a1, a2, a3⟩ <;> omega
section Ct
variable {sv : Nat → Int32} {L : Nat} {m : Nat}
theorem ct_l {c' : cg} {r : Int} {o' : cg × Option cv} : ∀ (n : Nat) {n' : Nat} {lf lf' : dlf} {c d : cg} {b np nq : Nat}, SY c d m np nq → lf 0 = (4, 90) → lf 2 = (0, (b : Int)) → (b : Int) ≤ c 88 5 → zr sv L n 32 22 lf [] c (c', some (0, r)) → lf' 0 = (4, 253) → lf' 2 = (0, 1) → zr sv L n' 274 31 lf' [] d o' → ∃ N d2 lf2, lf2 0 = (4, 253) ∧ zr sv L N 274 50 lf2 [] d2 o' ∧ ((r = 1 ∧ ∃ np nq, SY c' d2 m np nq) ∨ (r = 0 ∧ FLT c' d2))
  | 0, _, _, _, _, _, _, _, _, _, _, _, _, h, _, _, _ => (zr_0 h).elim
  | n + 1, n', lf, lf', c, d, b, np, nq, hS, h0, h2, hb, h, h0', h2', h' => by
    cases n' with
    | zero => exact (zr_0 h').elim
    | succ n' =>
      have hE := hS.1
      have hT := hS.2.1
      have hm9 := hE.1
      rcases m_court31 h' h0' h2' with ⟨y1, -⟩ | ⟨-, hm⟩
      · exact absurd y1 (by decide)
      · have stop : c 88 4 = 0 → (c', (some (0, r) : Option cv)) = (c, some (0, 1)) → ∃ N d2 lf2, lf2 0 = (4, 253) ∧ zr sv L N 274 50 lf2 [] d2 o' ∧ ((r = 1 ∧ ∃ np nq, SY c' d2 m np nq) ∨ (r = 0 ∧ FLT c' d2)) := by
          intro hz e
          obtain ⟨e1, e2⟩ := oI e
          have hz' := (tq_kinds hT).1.mp hz
          rcases hm with ⟨y2, lx, z0, hx⟩ | ⟨y2, -⟩
          · exact ⟨n', d, lx, z0, hx, Or.inl ⟨e2, np, nq, by rw [e1]; exact hS⟩⟩
          · exact absurd hz' y2
        rcases t_takeCt22 h h0 h2 with ⟨x1, h⟩ | ⟨x1, ⟨x2, h⟩ | ⟨x2, g3, r4, k1, h⟩⟩
        · exact stop (tq_end hT (by omega)) h
        · exact stop x2 h
        · have hz' : d 253 12 ≠ 0 := fun e => x2 ((tq_kinds hT).1.mpr e)
          rcases hm with ⟨y2, -⟩ | ⟨y2, d5, r6, k2, lx, z0, z2, hx⟩
          · exact absurd y2 hz'
          · rcases part_pr hS k1 rfl k2 rfl with ⟨w1, w2, ⟨np', nq', w3⟩, w4⟩ | ⟨w1, w2, w3⟩
            · rcases h with ⟨x3, ly, a0, a2, h⟩ | ⟨x3, h⟩
              · rw [w2] at z2
                exact ct_l n (b := b + 1) w3 a0 (by rw [a2, w32_id (by omega) (by omega)]; rfl) (by omega) h z0 z2 hx
              · omega
            · rcases h with ⟨x3, h⟩ | ⟨x3, h⟩
              · omega
              · obtain ⟨e1, e2⟩ := oI h
                cases n' with
                | zero => exact (zr_0 hx).elim
                | succ n' =>
                  rcases m_court31 hx z0 z2 with ⟨y3, ly, a0, hy⟩ | ⟨y3, -⟩
                  · exact ⟨n', d5, ly, a0, hy, Or.inr ⟨e2, by rw [e1]; exact w3⟩⟩
                  · exact absurd w2 y3
/-- the reference's text: its tape -/
theorem tx_l {o : cg × Option cv} (hm : m ≤ 900) : ∀ (n : Nat) {lf : dlf} {g : cg} {j : Nat}, lf 0 = (4, 253) → lf 1 = (0, (m : Int)) → lf 3 = (0, (j : Int)) → j ≤ m → (∀ i : Nat, i < m → -128 ≤ g 259 i ∧ g 259 i ≤ 127) → (∀ i : Nat, i < j → g 260 i = g 259 i) → zr sv L n 165 26 lf [] g o → ∃ N g1 lf1, lf1 0 = (4, 253) ∧ zr sv L N 165 49 lf1 [] g1 o ∧ (∀ k : Nat, k ≠ 260 → g1 k = g k) ∧ (∀ i : Nat, i < m → g1 260 i = g 259 i) ∧ ∀ i : Nat, m ≤ i → g1 260 i = g 260 i
  | 0, _, _, _, _, _, _, _, _, _, h => (zr_0 h).elim
  | n + 1, lf, g, j, h0, h1, h3, hj, hb, hc, h => by
    rcases m_begins26 h h0 h1 h3 with ⟨x1, lx, z0, h⟩ | ⟨x1, h⟩
    · exact ⟨n, g, lx, z0, h, fun _ _ => rfl, fun i hi => hc i (by omega), fun _ _ => rfl⟩
    · obtain ⟨lx, z0, z1, z3, h⟩ := h (by omega) (by omega)
      rw [show ((j : Int)).toNat = j from rfl, by8i (hb j (by omega)).1 (hb j (by omega)).2] at h
      have e9 : cup g 260 j (g 259 j) 259 = g 259 := cup_row g _ _ (by decide)
      obtain ⟨N, g1, lf1, y0, y1, y2, y3, y4⟩ := tx_l hm n (j := j + 1) z0 z1 (by rw [z3, w32_id (by omega) (by omega)]; rfl) (by omega) (by rw [e9]; exact hb) (fun i hi => by
        rw [e9]
        by_cases e : i = j
        · rw [e, cup_at]
        · rw [cup_ne (by omega)]; exact hc i (by omega)) h
      refine ⟨N, g1, lf1, y0, y1, fun k hk => (y2 k hk).trans (cup_row g _ _ hk), fun i hi => by rw [y3 i hi, e9], fun i hi => by rw [y4 i hi, cup_ne (by omega)]⟩
/-- plain(2976) -/
theorem pl_l {o : cg × Option cv} : ∀ (n : Nat) {lf : dlf} {g : cg} {b : Nat}, lf 0 = (4, 253) → lf 1 = (0, 2976) → lf 2 = (0, (b : Int)) → b ≤ 744 → (∀ j : Nat, j < b → g 254 (2976 + j) = 0) → zr sv L n 21 2 lf [] g o → ∃ N g1 lf1, lf1 0 = (4, 253) ∧ lf1 1 = (0, 2976) ∧ lf1 2 = (0, 0) ∧ zr sv L N 21 26 lf1 [] g1 o ∧ (∀ k : Nat, k ≠ 254 → g1 k = g k) ∧ ∀ j : Nat, j < 744 → g1 254 (2976 + j) = 0
  | 0, _, _, _, _, _, _, _, _, h => (zr_0 h).elim
  | n + 1, lf, g, b, h0, h1, h2, hb, hc, h => by
    rcases m_plain2 h h0 h1 h2 with ⟨x1, lx, z0, z1, z2, h⟩ | ⟨x1, lx, z0, z1, z2, h⟩
    · exact ⟨n, g, lx, z0, z1, z2, h, fun _ _ => rfl, fun j hj => hc j (by omega)⟩
    · rw [show (w32 (2976 + (b : Int))).toNat = 2976 + b by rw [w32_id (by omega) (by omega)]; omega] at h
      obtain ⟨N, g1, lf1, y0, y1, y2, y3, y4, y5⟩ := pl_l n (b := b + 1) z0 z1 (by rw [z2, w32_id (by omega) (by omega)]; rfl) (by omega) (fun j hj => by
        by_cases e : j = b
        · rw [e, cup_at]
        · rw [cup_ne (by omega)]; exact hc j (by omega)) h
      exact ⟨N, g1, lf1, y0, y1, y2, y3, fun k hk => (y4 k hk).trans (cup_row g _ _ hk), y5⟩
theorem pl_l2 {g' : cg} : ∀ (n : Nat) {lf : dlf} {g : cg} {b : Nat}, lf 0 = (4, 253) → lf 1 = (0, 2976) → lf 2 = (0, (b : Int)) → b ≤ 48 → (∀ j : Nat, j < b → g 254 (3027 + j) = -1) → zr sv L n 21 26 lf [] g (g', none) → ∃ g1, g' = cup (cup (cup (cup g1 254 2979 5) 254 2980 2) 254 2981 10) 254 2983 (-1) ∧ (∀ k : Nat, k ≠ 254 → g1 k = g k) ∧ (∀ j : Nat, j < 3027 → g1 254 j = g 254 j) ∧ ∀ j : Nat, j < 48 → g1 254 (3027 + j) = -1
  | 0, _, _, _, _, _, _, _, _, h => (zr_0 h).elim
  | n + 1, lf, g, b, h0, h1, h2, hb, hc, h => by
    rcases m_plain26 h h0 h1 h2 with ⟨x1, h⟩ | ⟨x1, lx, z0, z1, z2, h⟩
    · have e := oV h
      rw [show (w32 (2976 + 3)).toNat = 2979 from rfl, show (w32 (w32 (2976 + 3) + 1)).toNat = 2980 from rfl, show (w32 (2976 + 5)).toNat = 2981 from rfl, show (w32 (2976 + 7)).toNat = 2983 from rfl] at e
      exact ⟨g, e, fun _ _ => rfl, fun _ _ => rfl, fun j hj => hc j (by omega)⟩
    · rw [show w32 (2976 + 51) = 3027 from rfl, show (w32 (3027 + (b : Int))).toNat = 3027 + b by rw [w32_id (by omega) (by omega)]; omega] at h
      obtain ⟨g1, y1, y2, y3, y4⟩ := pl_l2 n (b := b + 1) z0 z1 (by rw [z2, w32_id (by omega) (by omega)]; rfl) (by omega) (fun j hj => by
        by_cases e : j = b
        · rw [e, cup_at]
        · rw [cup_ne (by omega)]; exact hc j (by omega)) h
      exact ⟨g1, y1, fun k hk => (y2 k hk).trans (cup_row g _ _ hk), fun j hj => by rw [y3 j hj, cup_ne (by omega)], y4⟩
theorem plain_ok {n : Nat} {lf : dlf} {g g' : cg} (h : zr sv L n 21 0 lf [] g (g', none)) (h0 : lf 0 = (4, 253)) (h1 : lf 1 = (0, 2976)) : (∀ k : Nat, k ≠ 254 → g' k = g k) ∧ (g' 254 2979 = 5 ∧ g' 254 2980 = 2 ∧ g' 254 2981 = 10 ∧ g' 254 2983 = -1) ∧ (∀ j : Nat, 2976 ≤ j → j < 3027 → j ≠ 2979 → j ≠ 2980 → j ≠ 2981 → j ≠ 2983 → g' 254 j = 0) ∧ ∀ j : Nat, j < 48 → g' 254 (3027 + j) = -1 := by
  obtain ⟨lx, z0, z1, z2, h⟩ := m_plain0 h h0 h1
  obtain ⟨N, g1, lf1, y0, y1, y2, h, y3, y4⟩ := pl_l n (b := 0) z0 z1 z2 (by decide) (fun j hj => absurd hj (Nat.not_lt_zero j)) h
  obtain ⟨g2, e, x1, x2, x3⟩ := pl_l2 N (b := 0) y0 y1 y2 (by decide) (fun j hj => absurd hj (Nat.not_lt_zero j)) h
  rw [e]
  refine ⟨fun k hk => ?_, ⟨?_, ?_, ?_, ?_⟩, fun j j1 j2 j3 j4 j5 j6 => ?_, fun j hj => ?_⟩
  · rw [cup_row _ _ _ hk, cup_row _ _ _ hk, cup_row _ _ _ hk, cup_row _ _ _ hk, x1 k hk, y3 k hk]
  · rw [cup_ne (by decide), cup_ne (by decide), cup_ne (by decide), cup_at]
  · rw [cup_ne (by decide), cup_ne (by decide), cup_at]
  · rw [cup_ne (by decide), cup_at]
  · rw [cup_at]
  · rw [cup_ne (by omega), cup_ne (by omega), cup_ne (by omega), cup_ne (by omega), x2 j (by omega)]
    have := y4 (j - 2976) (by omega)
    rw [show 2976 + (j - 2976) = j by omega] at this
    exact this
  · rw [cup_ne (by omega), cup_ne (by omega), cup_ne (by omega), cup_ne (by omega)]
    exact x3 j hj
/-- the court that is taken over -/
theorem cm_l {o : cg × Option cv} {X : Int} : ∀ (n : Nat) {lf : dlf} {g : cg} {b : Nat}, lf 0 = (4, 253) → lf 3 = (0, (b : Int)) → b ≤ 744 → g 254 2977 = X → (1 < b → g 254 1 = X) → zr sv L n 274 59 lf [] g o → ∃ N g1 lf1, lf1 0 = (4, 253) ∧ lf1 3 = (0, 0) ∧ zr sv L N 274 90 lf1 [] g1 o ∧ (∀ k : Nat, k ≠ 254 → g1 k = g k) ∧ g1 254 1 = X
  | 0, _, _, _, _, _, _, _, _, h => (zr_0 h).elim
  | n + 1, lf, g, b, h0, h3, hb, hX, h1, h => by
    rcases m_court59 h h0 h3 with ⟨x1, lx, z0, z3, h⟩ | ⟨x1, h⟩
    · exact ⟨n, g, lx, z0, z3, h, fun _ _ => rfl, h1 (by omega)⟩
    · have e : w32 (2976 + (b : Int)) = ((2976 + b : Nat) : Int) := by
        rw [w32_id (by omega) (by omega)]
        omega
      rw [e] at h
      obtain ⟨lx, z0, z3, h⟩ := h (by omega) (by omega)
      rw [show ((b : Int)).toNat = b from rfl, show (((2976 + b : Nat) : Int)).toNat = 2976 + b from rfl] at h
      obtain ⟨N, g1, lf1, y0, y1, y2, y3, y4⟩ := cm_l (X := X) n (b := b + 1) z0 (by rw [z3, w32_id (by omega) (by omega)]; rfl) (by omega) (by rw [cup_ne (by omega)]; exact hX) (fun hb1 => by
        by_cases e : b = 1
        · rw [e, cup_at]; exact hX
        · rw [cup_ne (by omega)]; exact h1 (by omega)) h
      exact ⟨N, g1, lf1, y0, y1, y2, fun k hk => (y3 k hk).trans (cup_row g _ _ hk), y4⟩
theorem cn_l {o : cg × Option cv} : ∀ (n : Nat) {lf : dlf} {g : cg} {b : Nat}, lf 0 = (4, 253) → lf 3 = (0, (b : Int)) → b ≤ 12 → zr sv L n 274 90 lf [] g o → ∃ N g1 lf1, lf1 0 = (4, 253) ∧ zr sv L N 274 117 lf1 [] g1 o ∧ ∀ k : Nat, k ≠ 255 → g1 k = g k
  | 0, _, _, _, _, _, _, h => (zr_0 h).elim
  | n + 1, lf, g, b, h0, h3, hb, h => by
    rcases m_court90 h h0 h3 with ⟨x1, lx, z0, h⟩ | ⟨x1, h⟩
    · exact ⟨n, g, lx, z0, h, fun _ _ => rfl⟩
    · have e : w32 (48 + (b : Int)) = ((48 + b : Nat) : Int) := by
        rw [w32_id (by omega) (by omega)]
        omega
      rw [e] at h
      obtain ⟨lx, z0, z3, h⟩ := h (by omega) (by omega)
      obtain ⟨N, g1, lf1, y0, y1, y2⟩ := cn_l n (b := b + 1) z0 (by rw [z3, w32_id (by omega) (by omega)]; rfl) (by omega) h
      exact ⟨N, g1, lf1, y0, y1, fun k hk => (y2 k hk).trans (cup_row g _ _ hk)⟩
theorem cp_l {g' : cg} {X : Int} : ∀ (n : Nat) {lf : dlf} {g : cg} {b : Nat}, lf 0 = (4, 3) → lf 1 = (4, 45) → lf 2 = (0, (b : Int)) → g 3 3 = X → g 3 9 = 0 → zr sv L n 60 86 lf [] g (g', none) → g' 3 3 = X
  | 0, _, _, _, _, _, _, _, _, h => (zr_0 h).elim
  | n + 1, lf, g, b, h0, h1, h2, hX, h9, h => by
    have fin : ∀ {lx : dlf}, lx 0 = (4, 3) → lx 1 = (4, 45) → lx 2 = (0, 0) → zr sv L n 60 123 lx [] g (g', none) → g' 3 3 = X := by
      intro lx z0 z1 z2 hx
      cases n with
      | zero => exact (zr_0 hx).elim
      | succ n =>
        rcases t_cpCase123 hx z0 z1 z2 with ⟨x1, hx⟩ | ⟨x1, -⟩
        · rw [oV hx]; exact hX
        · omega
    rcases t_cpCase86 h h0 h1 h2 with ⟨x1, lx, z0, z1, z2, h⟩ | ⟨x1, ⟨x2, lx, z0, z1, z2, h⟩ | ⟨x2, h⟩⟩
    · exact fin z0 z1 z2 h
    · exact fin z0 z1 z2 h
    · obtain ⟨g7, k1, lx, z0, z1, z2, h⟩ := h (by omega) (by omega)
      have e := oV (t_cpPer (i := (b : Int)) (by omega) (by omega) k1 rfl rfl)
      have f : ∀ j : Nat, g7 3 j = g 3 j := fun j => by
        rw [e, ccp_ne (by omega), cup_ne (by omega), cup_ne (by omega), cup_ne (by omega), cup_ne (by omega), cup_ne (by omega), cup_ne (by omega)]
      exact cp_l n (b := b + 1) z0 z1 (by rw [z2, w32_id (by omega) (by omega)]; rfl) (by rw [f]; exact hX) (by rw [f]; exact h9) h
theorem cp_ok {n : Nat} {lf : dlf} {g g' : cg} (h : zr sv L n 59 0 lf [] g (g', none)) (h0 : lf 0 = (4, 3)) (h1 : lf 1 = (4, 45)) (h9 : g 45 9 = 0) : g' 3 3 = g 45 3 := by
  obtain ⟨g1, k1, g2, k2, h⟩ := t_cpAll h h0 h1
  have e := oV (t_cpTri k2 rfl rfl)
  have e2 := oV h
  rw [e2, e, ccp_ne (by decide), ccp_ne (by decide), ccp_ne (by decide), ccp_ne (by decide), ccp_ne (by decide), ccp_ne (by decide), ccp_ne (by decide), ccp_ne (by decide), cup_ne (by decide), cup_ne (by decide), cup_ne (by decide)]
  obtain ⟨lx, z0, z1, z2, k1⟩ := t_cpCase0 k1 rfl rfl
  refine cp_l n (b := 0) (X := g 45 3) z0 z1 z2 ?_ ?_ k1
  · rw [ccp_ne (by decide), ccp_ne (by decide), cup_ne (by decide), cup_ne (by decide), cup_ne (by decide), cup_ne (by decide), cup_ne (by decide), cup_at]
  · rw [ccp_ne (by decide), ccp_ne (by decide), cup_at]
    exact h9
/-- what both sides have in common before: the tape, and how much of it is there -/
def PRE (c d : cg) : Prop := ∃ k : Nat, k ≤ 900 ∧ c 0 5 = (k : Int) ∧ d 253 10 = (k : Int) ∧ (∀ j : Nat, j < 900 → -128 ≤ c 2 j ∧ c 2 j ≤ 127) ∧ MBY d ∧ (∀ j : Nat, j < k → d 259 j = c 2 j) ∧ ∀ i : Nat, i < 25 → c 89 i = kv i
theorem court_eq {n n' : Nat} {lf lf' : dlf} {c d c' d' : cg} {a r r' : Int} (hP : PRE c d) (h : zr sv L n 273 0 lf [] c (c', some (0, r))) (h0 : lf 0 = (4, 0)) (h1 : lf 1 = (0, a)) (h' : zr sv L n' 274 0 lf' [] d (d', some (0, r'))) (h0' : lf' 0 = (4, 253)) (h1' : lf' 1 = (0, a)) : r = r' := by
  obtain ⟨k, hk9, hk, hk', hcb, hdb, htp, hks⟩ := hP
  obtain ⟨g1, r2, k1, h⟩ := t_court h h0 h1
  obtain ⟨d1, r2', k2, h'⟩ := m_court0 h' h0' h1'
  have refuse : r2 = 0 → r2' = 0 → r = r' := by
    intro z1 z2
    rcases h with ⟨y1, -⟩ | ⟨y1, g12, r13, k3, h⟩
    · exact absurd z1 y1
    · rcases h' with ⟨y2, -⟩ | ⟨y2, g6, r7, k4, h'⟩
      · exact absurd z2 y2
      · have e1 := (oI (t_refuse k3 rfl rfl)).2
        have e2 := (oI (m_refuse k4 rfl rfl)).2
        have e3 := (oI h).2
        have e4 := (oI h').2
        omega
  rcases t_within k1 rfl rfl rfl with ⟨x1, x2⟩ | ⟨x1, ⟨x2, x3⟩ | ⟨x2, x3⟩⟩
  · rcases m_begins0 k2 rfl rfl rfl with ⟨y1, y2⟩ | ⟨y1, y2⟩
    · exact refuse (oI x2).2 (oI y2).2
    · omega
  · rcases m_begins0 k2 rfl rfl rfl with ⟨y1, y2⟩ | ⟨y1, ⟨y2, y3⟩ | ⟨y2, y3⟩⟩
    · omega
    · exact refuse (oI x3).2 (oI y3).2
    · omega
  · rcases m_begins0 k2 rfl rfl rfl with ⟨y1, y2⟩ | ⟨y1, ⟨y2, y3⟩ | ⟨y2, ⟨y3, lx, z0, z1, z3, k3⟩ | ⟨y3, y4⟩⟩⟩
    · omega
    · omega
    · obtain ⟨ma, hma⟩ : ∃ ma : Nat, a = (ma : Int) := ⟨a.toNat, by omega⟩
      rw [hma] at z1 k3
      obtain ⟨e1, e2⟩ := oI x3
      rcases h with ⟨u1, g4, r5, k4, h⟩ | ⟨u1, h⟩
      · -- the text
        obtain ⟨N, d2, lf2, w0, k5, w1, w2, w3⟩ := tx_l (m := ma) (by omega) n' (j := 0) z0 z1 z3 (Nat.zero_le _) (fun i hi => by
          rw [cup_row d _ _ (by decide), htp i (by omega)]; exact hcb i (by omega)) (fun i hi => absurd hi (Nat.not_lt_zero i)) k3
        obtain ⟨d4, k6, he⟩ := m_begins49 k5 w0
        obtain ⟨e3, e4⟩ := oI he
        -- the class's draft
        obtain ⟨c1, k7, c2, k8, ly, v0, v2, k9⟩ := t_takeCt0 k4 rfl rfl
        obtain ⟨c0, k10, he1⟩ := t_clear k7 rfl
        have e5 := oV (t_tclear k10 rfl)
        have e6 := oV he1
        obtain ⟨g5, r6, k11, g7, k12, he2⟩ := t_tbegin k8 rfl rfl
        have e7 := oV he2
        have hmin : g5 = cup c1 90 4 0 ∧ r6 = (ma : Int) := by
          rcases t_min k11 rfl rfl with ⟨q1, q2⟩ | ⟨q1, q2⟩
          · omega
          · obtain ⟨q3, q4⟩ := oI q2
            exact ⟨q3, by omega⟩
        obtain ⟨e8, e9⟩ := hmin
        have C45 : ∀ j : Nat, c1 45 j = cup (cup (cup (cup (cup (cup (cup (cup g1 0 5 0) 45 0 0) 45 3 0) 45 5 5) 45 6 2) 45 7 10) 45 8 0) 45 9 0 45 j := fun j => by
          rw [e6, e5, cup_ne (by omega), cup_ne (by omega), cup_ne (by omega)]
        have Crow : ∀ k : Nat, k ≠ 0 → k ≠ 45 → k ≠ 50 → c1 k = c k := fun k q1 q2 q3 => by
          rw [e6, e5, cup_row _ _ _ q3, cup_row _ _ _ q3, cup_row _ _ _ q3, cup_row _ _ _ q2, cup_row _ _ _ q2, cup_row _ _ _ q2, cup_row _ _ _ q2, cup_row _ _ _ q2, cup_row _ _ _ q2, cup_row _ _ _ q2, cup_row _ _ _ q1, e1]
        rw [e8, e9] at k12
        have c3row : ∀ k : Nat, k ≠ 88 → cup (cup (cup (cup (cup c1 90 4 0) 88 2 (ma : Int)) 88 3 0) 88 10 0) 88 11 (-1) k = cup c1 90 4 0 k := fun k q => by
          rw [cup_row _ _ _ q, cup_row _ _ _ q, cup_row _ _ _ q, cup_row _ _ _ q]
        have d3row : ∀ k : Nat, k ≠ 253 → cup (cup (cup (cup (cup d2 253 10 0) 253 18 0) 253 17 (-1)) 253 14 0) 253 19 0 k = d2 k := fun k q => by
          rw [cup_row _ _ _ q, cup_row _ _ _ q, cup_row _ _ _ q, cup_row _ _ _ q, cup_row _ _ _ q]
        have hE3 : TE (cup (cup (cup (cup (cup c1 90 4 0) 88 2 (ma : Int)) 88 3 0) 88 10 0) 88 11 (-1)) (cup (cup (cup (cup (cup d2 253 10 0) 253 18 0) 253 17 (-1)) 253 14 0) 253 19 0) ma := by
          refine ⟨by omega, ?_, ?_, ?_, ?_, ?_, ?_, by rw [cup_ne (by decide), cup_at], by rw [cup_at], by rw [cup_ne (by decide), cup_ne (by decide), cup_at]⟩
          · rw [cup_ne (by decide), cup_ne (by decide), cup_ne (by decide), cup_at]
          · rw [cup_ne (by decide), cup_ne (by decide), cup_ne (by decide), cup_ne (by decide), cup_ne (by decide), w1 253 (by decide), cup_at]
          · rw [c3row 2 (by decide), cup_row _ _ _ (by decide), Crow 2 (by decide) (by decide) (by decide)]
            exact hcb
          · unfold MBY at hdb ⊢
            rw [d3row 260 (by decide)]
            intro j hj
            by_cases e : j < ma
            · rw [w2 j e, cup_row d _ _ (by decide), htp j (by omega)]; exact hcb j (by omega)
            · rw [w3 j (by omega), cup_row d _ _ (by decide)]; exact hdb j hj
          · intro j hj
            rw [d3row 260 (by decide), c3row 2 (by decide), cup_row _ _ _ (by decide), Crow 2 (by decide) (by decide) (by decide), w2 j hj, cup_row d _ _ (by decide)]
            exact htp j (by omega)
          · intro i hi
            rw [c3row 89 (by decide), cup_row _ _ _ (by decide), Crow 89 (by decide) (by decide) (by decide)]
            exact hks i hi
        obtain ⟨f1, f2, hE4, hT4⟩ := adv_ahd (a := 0) hE3 (Eq.trans (b := (0 : Int)) (by rw [cup_ne (by decide), cup_ne (by decide), cup_at]) rfl) (Eq.trans (b := (0 : Int)) (by rw [cup_ne (by decide), cup_at]) rfl) (Nat.zero_le _) k12 rfl k6 rfl
        rcases h' with ⟨u2, d5, k13, lz, v3, v4, k14⟩ | ⟨u2, h'⟩
        · obtain ⟨p1, p2, p3, p4⟩ := plain_ok k13 rfl rfl
          rw [e3] at p1
          have hE5 := ((hE4.up (c' := g7) (d' := d5) rfl rfl rfl (p1 253 (by decide)) (p1 260 (by decide))).told (g7 90 4) 0)
          have hT5 := ((hT4.up (c' := g7) (d' := d5) rfl (p1 253 (by decide)) (p1 260 (by decide))).told (g7 90 4) 0)
          rw [cup_id rfl] at hE5 hT5
          have d6 : ∀ j : Nat, cup d5 253 20 0 254 j = d5 254 j := fun j => cup_ne (by omega)
          have c7 : ∀ j : Nat, g7 45 j = c1 45 j := fun j => by
            rw [f1.row (k := 45) (by decide), c3row 45 (by decide), cup_row _ _ _ (by decide)]
          have hS : SY g7 (cup d5 253 20 0) ma 0 0 := by
            refine ⟨hE5, hT5, ⟨⟨by decide, by decide⟩, ⟨?_, ?_, ?_, ?_⟩, fun i hi => absurd hi (Nat.not_lt_zero i), fun i hi => absurd hi (Nat.not_lt_zero i), fun i hi => absurd hi (Nat.not_lt_zero i), fun i hi => absurd hi (Nat.not_lt_zero i), fun i _ hi => ⟨?_, fun h hh => ?_⟩, ⟨?_, ?_, ?_, ?_, ?_, ?_, ?_⟩, ?_⟩, ?_⟩
            · exact Eq.trans (b := (0 : Int)) (by rw [c7, C45, cup_ne (by decide), cup_ne (by decide), cup_ne (by decide), cup_ne (by decide), cup_ne (by decide), cup_ne (by decide), cup_at]) rfl
            · exact Eq.trans (b := (0 : Int)) (by rw [d6, p3 2976 (by decide) (by decide) (by decide) (by decide) (by decide) (by decide)]) rfl
            · exact Eq.trans (b := (0 : Int)) (by rw [c7, C45, cup_ne (by decide), cup_ne (by decide), cup_ne (by decide), cup_ne (by decide), cup_ne (by decide), cup_at]) rfl
            · exact Eq.trans (b := (0 : Int)) (by rw [d6, p3 2977 (by decide) (by decide) (by decide) (by decide) (by decide) (by decide)]) rfl
            · rw [d6, p3 _ (by omega) (by omega) (by omega) (by omega) (by omega) (by omega)]
            · rw [d6, show 3027 + 8 * i + h = 3027 + (8 * i + h) by omega, p4 _ (by omega)]
            · rw [c7, C45, d6, p2.1, cup_ne (by decide), cup_ne (by decide), cup_ne (by decide), cup_ne (by decide), cup_at]
            · rw [c7, C45, d6, p2.2.1, cup_ne (by decide), cup_ne (by decide), cup_ne (by decide), cup_at]
            · rw [c7, C45, d6, p2.2.2.1, cup_ne (by decide), cup_ne (by decide), cup_at]
            · rw [c7, C45, cup_ne (by decide), cup_at]
            · rw [d6, p3 2982 (by decide) (by decide) (by decide) (by decide) (by decide) (by decide)]
            · rw [c7, C45, cup_at]
            · rw [d6, p3 2978 (by decide) (by decide) (by decide) (by decide) (by decide) (by decide)]
            · refine ⟨?_, fun i hi => absurd hi (Nat.not_lt_zero i), ?_, ?_⟩
              · rw [cup_at, f1.row (k := 90) (by decide), c3row 90 (by decide), cup_at]
                exact ⟨0, 0, 0, by decide, by decide, by decide, rfl, rfl⟩
              · exact Eq.trans (b := (0 : Int)) (by rw [f1.row (k := 50) (by decide), c3row 50 (by decide), cup_row _ _ _ (by decide), e6, e5, cup_ne (by omega), cup_ne (by omega), cup_at]) rfl
              · rw [d6]; exact p2.2.2.2
            · rw [cup_ne (by decide), p1 253 (by decide), f2 253 18 (by omega), cup_ne (by decide), cup_ne (by decide), cup_ne (by decide), cup_at]
          have hb0 : ((0 : Nat) : Int) ≤ g7 88 5 := by
            obtain ⟨p, hp, -⟩ := hT5
            omega
          rw [e7] at k9
          obtain ⟨N2, d7, lw, q0, k15, hfin⟩ := ct_l (m := ma) n (b := 0) hS v0 v2 hb0 k9 v3 v4 k14
          rcases hfin with ⟨q1, np, nq, hS7⟩ | ⟨q1, hF⟩
          · have hD7 := hS7.2.2.1
            rcases h with ⟨q2, g8, k16, g9, r9, k17, h⟩ | ⟨q2, h⟩
            · have hcp := cp_ok k16 rfl rfl hD7.2.2.2.2.2.2.2.1.2.2.2.2.2.1
              have e10 := (oI (t_give k17 rfl rfl)).2
              have e11 := (oI h).2
              have hr : r = (nq : Int) := by
                rw [e11, e10, hcp]
                exact hD7.2.1.2.2.1
              rcases m_court50 k15 q0 with ⟨q3, -⟩ | ⟨q3, l1, l2, l3, k18⟩
              · exact absurd hS7.2.2.2 q3
              · obtain ⟨N3, d8, l4, l5, l6, k19, l7, l8⟩ := cm_l (X := (nq : Int)) N2 (b := 0) l2 l3 (by decide) hD7.2.1.2.2.2 (fun e => absurd e (by decide)) k18
                obtain ⟨N4, d9, l9, l10, k20, l11⟩ := cn_l N3 (b := 0) l5 l6 (by decide) k19
                obtain ⟨g10, r10, k21, he3⟩ := m_court117 k20 l10
                have e12 := (oI he3).2
                rw [l11 254 (by decide), l8] at k21
                rcases m_taken k21 rfl rfl with ⟨t1, g11, r11, k22, t2⟩ | ⟨t1, t2⟩
                · have e13 := (oI t2).2
                  have e14 := (oI (m_gives k22 rfl rfl)).2
                  omega
                · exfalso
                  have := hS7.2.2.2
                  rw [l11 253 (by decide), l7 253 (by decide)] at t1
                  omega
            · omega
          · rcases h with ⟨q2, h⟩ | ⟨q2, g10, r11, k16, h⟩
            · exact absurd q1 q2
            · have e10 := (oI (t_refuse k16 rfl rfl)).2
              have e11 := (oI h).2
              obtain ⟨hF1, hF2, hF3⟩ := hF
              rcases m_court50 k15 q0 with ⟨q3, l1, l2, k18⟩ | ⟨q3, -⟩
              · obtain ⟨g12, r12, k21, he3⟩ := m_court117 k18 l2
                have e12 := (oI he3).2
                rcases m_taken k21 rfl rfl with ⟨t1, t2⟩ | ⟨t1, g13, r13, k22, t2⟩
                · omega
                · have e13 := (oI t2).2
                  have e14 := (oI (m_refuse k22 rfl rfl)).2
                  omega
              · omega
        · omega
      · omega
    · omega
end Ct
