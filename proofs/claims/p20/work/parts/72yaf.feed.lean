/-! feed, on both sides -/
def FQ (c d : cg) (k : Nat) : Prop := c 0 5 = (k : Int) ∧ d 253 10 = (k : Int) ∧ (∀ j : Nat, j < k → d 259 j = c 2 j) ∧ ∀ i : Nat, i < 25 → c 89 i = kv i
section Fed
variable {sv : Nat → Int32} {L : Nat}
theorem word_l {c' d' : cg} {a : Int} : ∀ (q : Nat) {n n' : Nat} {lf lf' : dlf} {c d : cg} {k : Nat} {b : Int}, q ≤ 4 → b = 8 * (q : Int) - 8 → FQ c d k → k + q ≤ 900 → zr sv L n 31 3 lf [] c (c', none) → lf 0 = (4, 0) → lf 1 = (0, a) → lf 2 = (0, b) → zr sv L n' 164 3 lf' [] d (d', none) → lf' 0 = (4, 253) → lf' 1 = (0, a) → lf' 2 = (0, b) → FQ c' d' (k + q) ∧ d' 2 = d 2 ∧ d' 89 = d 89
  | 0, n, n', lf, lf', c, d, k, b, hq, hb, hF, hk, h, h0, h1, h2, h', h0', h1', h2' => by
    cases n with
    | zero => exact (zr_0 h).elim
    | succ n => cases n' with
      | zero => exact (zr_0 h').elim
      | succ n' =>
        rcases t_word3 h h0 h1 h2 with ⟨x, h⟩ | ⟨x, -⟩
        · rcases m_word3 h' h0' h1' h2' with ⟨x', h'⟩ | ⟨x', -⟩
          · rw [oV h, oV h']
            exact ⟨hF, rfl, rfl⟩
          · omega
        · omega
  | q + 1, n, n', lf, lf', c, d, k, b, hq, hb, hF, hk, h, h0, h1, h2, h', h0', h1', h2' => by
    cases n with
    | zero => exact (zr_0 h).elim
    | succ n => cases n' with
      | zero => exact (zr_0 h').elim
      | succ n' =>
        obtain ⟨f1, f2, f3, f4⟩ := hF
        rcases t_word3 h h0 h1 h2 with ⟨x, -⟩ | ⟨x, ⟨y, -⟩ | ⟨y, lx, z0, z1, z2, h⟩⟩
        · omega
        · omega
        · rcases m_word3 h' h0' h1' h2' with ⟨x', -⟩ | ⟨x', ly, u0, u1, u2, h'⟩
          · omega
          · rw [f1, show ((k : Nat) : Int).toNat = k from rfl, show w32 ((k : Int) + 1) = ((k + 1 : Nat) : Int) from w32_id (by omega) (by omega)] at h
            rw [f2, show ((k : Nat) : Int).toNat = k from rfl, show w32 ((k : Int) + 1) = ((k + 1 : Nat) : Int) from w32_id (by omega) (by omega)] at h'
            rw [w32_id (by omega) (by omega)] at z2 u2
            obtain ⟨r1, r2, r3⟩ := word_l q (k := k + 1) (b := b + -8) (by omega) (by omega) ⟨by rw [cup_at], by rw [cup_at], fun j hj => by
              rw [cup_ne (by omega), cup_ne (g := cup c 2 k _) (by omega)]
              by_cases e : j = k
              · rw [e, cup_at, cup_at]
              · rw [cup_ne (by omega), cup_ne (by omega)]
                exact f3 j (by omega), fun i hi => by
              rw [cup_ne (by omega), cup_ne (by omega)]
              exact f4 i hi⟩ (by omega) h z0 z1 z2 h' u0 u1 u2
            refine ⟨by rw [show k + (q + 1) = k + 1 + q by omega]; exact r1, ?_, ?_⟩
            · rw [r2, cup_row _ _ _ (by decide), cup_row _ _ _ (by decide)]
            · rw [r3, cup_row _ _ _ (by decide), cup_row _ _ _ (by decide)]
theorem word_pr {n n' : Nat} {lf lf' : dlf} {c d c' d' : cg} {k : Nat} {a : Int} (hF : FQ c d k) (hk : k + 4 ≤ 900) (h : zr sv L n 31 0 lf [] c (c', none)) (h0 : lf 0 = (4, 0)) (h1 : lf 1 = (0, a)) (h' : zr sv L n' 164 0 lf' [] d (d', none)) (h0' : lf' 0 = (4, 253)) (h1' : lf' 1 = (0, a)) : FQ c' d' (k + 4) ∧ d' 2 = d 2 ∧ d' 89 = d 89 := by
  obtain ⟨lx, z0, z1, z2, h⟩ := t_word0 h h0 h1
  obtain ⟨ly, u0, u1, u2, h'⟩ := m_word0 h' h0' h1'
  exact word_l 4 (Nat.le_refl _) rfl hF hk h z0 z1 z2 h' u0 u1 u2
theorem feed_eq {n n' : Nat} {lf lf' : dlf} {c g g' : cg} {a b e d x : Int} {rv rv' : Option cv} (hP : PRE c g) (h : zr sv L n 271 0 lf [] c (g, rv)) (h0 : lf 0 = (4, 0)) (h1 : lf 1 = (0, a)) (h2 : lf 2 = (0, b)) (h3 : lf 3 = (0, e)) (h4 : lf 4 = (0, d)) (h5 : lf 5 = (0, x)) (h' : zr sv L n' 272 0 lf' [] g (g', rv')) (h0' : lf' 0 = (4, 253)) (h1' : lf' 1 = (0, a)) (h2' : lf' 2 = (0, b)) (h3' : lf' 3 = (0, e)) (h4' : lf' 4 = (0, d)) (h5' : lf' 5 = (0, x)) : (∀ j : Nat, (j : Int) < g' 253 10 → g' 259 j = g' 2 j) ∧ ∀ i : Nat, i < 25 → g' 89 i = kv i := by
  obtain ⟨k, hk9, hk, hk', -, -, htp, hks⟩ := hP
  have hF : FQ c g k := ⟨hk, hk', htp, hks⟩
  have w : w32 ((k : Int) + 20) = (k : Int) + 20 := w32_id (by omega) (by omega)
  have h := t_feed h h0 h1 h2 h3 h4 h5
  have h' := m_feed h' h0' h1' h2' h3' h4' h5'
  rw [hk, w] at h
  rw [hk', w] at h'
  rcases h with ⟨y, c2, k2, c3, k3, c4, k4, c5, k5, c6, k6, o⟩ | ⟨y, o⟩
  · rcases h' with ⟨y', d2, l2, d3, l3, d4, l4, d5, l5, d6, l6, o'⟩ | ⟨y', o'⟩
    · obtain ⟨F2, p2, q2⟩ := word_pr hF (by omega) k2 rfl rfl l2 rfl rfl
      obtain ⟨F3, p3, q3⟩ := word_pr F2 (by omega) k3 rfl rfl l3 rfl rfl
      obtain ⟨F4, p4, q4⟩ := word_pr F3 (by omega) k4 rfl rfl l4 rfl rfl
      obtain ⟨F5, p5, q5⟩ := word_pr F4 (by omega) k5 rfl rfl l5 rfl rfl
      obtain ⟨F6, p6, q6⟩ := word_pr F5 (by omega) k6 rfl rfl l6 rfl rfl
      have eg : g = c6 := (Prod.mk.inj o).1
      have eg' : g' = d6 := (Prod.mk.inj o').1
      obtain ⟨x1, x2, x3, x4⟩ := F6
      have e2 : g' 2 = c6 2 := by rw [eg', p6, p5, p4, p3, p2, eg]
      have e89 : g' 89 = c6 89 := by rw [eg', q6, q5, q4, q3, q2, eg]
      refine ⟨fun j hj => ?_, fun i hi => by rw [e89]; exact x4 i hi⟩
      rw [eg'] at hj
      rw [e2, eg']
      exact x3 j (by omega)
    · omega
  · rcases h' with ⟨y', h'⟩ | ⟨y', o'⟩
    · omega
    · have eg : g = c := (Prod.mk.inj o).1
      have eg' : g' = g := (Prod.mk.inj o').1
      rw [eg']
      refine ⟨fun j hj => ?_, fun i hi => by rw [eg]; exact hks i hi⟩
      rw [htp j (by omega), eg]
end Fed
