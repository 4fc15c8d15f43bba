/-! tokens: what advance() and ahead() find -/
def blk (c : Int) : Prop := c = 32 ∨ c = 10
def sml (c : Int) : Prop := 97 ≤ c ∧ c ≤ 122
def dgt (c : Int) : Prop := 48 ≤ c ∧ c ≤ 57
def sgn (c : Int) : Prop := c = 59 ∨ c = 60 ∨ c = 61 ∨ c = 62
def RN (P : Int → Prop) (b : Nat → Int) (m p q : Nat) : Prop := p ≤ q ∧ q ≤ m ∧ (∀ j, p ≤ j → j < q → P (b j)) ∧ (q < m → ¬ P (b q))
theorem RN.un {P : Int → Prop} {b : Nat → Int} {m p q q' : Nat} (h : RN P b m p q) (h' : RN P b m p q') : q = q' := by
  obtain ⟨a1, a2, a3, a4⟩ := h
  obtain ⟨c1, c2, c3, c4⟩ := h'
  rcases Nat.lt_trichotomy q q' with e | e | e
  · exact absurd (c3 q a1 e) (a4 (by omega))
  · exact e
  · exact absurd (a3 q' c1 e) (c4 (by omega))
theorem RN.step {P : Int → Prop} {b : Nat → Int} {m p q : Nat} (hb : P (b p)) (h : RN P b m (p + 1) q) : RN P b m p q := by
  obtain ⟨a1, a2, a3, a4⟩ := h
  refine ⟨by omega, a2, fun j h1 h2 => ?_, a4⟩
  by_cases e : j = p
  · rw [e]; exact hb
  · exact a3 j (by omega) h2
theorem RN.stop {P : Int → Prop} {b : Nat → Int} {m p : Nat} (hm : p ≤ m) (hb : p < m → ¬ P (b p)) : RN P b m p p := ⟨Nat.le_refl _, hm, fun j h1 h2 => by omega, hb⟩
def P5 (b : Nat → Int) (p : Nat) : Nat → Int
  | 0 => 0
  | k + 1 => P5 b p k * 32 + (b (p + k) - 96)
def DC (b : Nat → Int) (p : Nat) : Nat → Int
  | 0 => 0
  | k + 1 => DC b p k * 10 + (b (p + k) - 48)
theorem P5_bd {b : Nat → Int} {p : Nat} : ∀ k : Nat, (∀ j, p ≤ j → j < p + k → sml (b j)) → 0 ≤ P5 b p k ∧ P5 b p k + 1 ≤ ((32 ^ k : Nat) : Int)
  | 0, _ => ⟨by show (0 : Int) ≤ 0; omega, by show (0 : Int) + 1 ≤ ((1 : Nat) : Int); omega⟩
  | k + 1, h => by
    obtain ⟨h1, h2⟩ := P5_bd k (fun j a c => h j a (by omega))
    have h3 := h (p + k) (by omega) (by omega)
    unfold sml at h3
    have e : (32 : Nat) ^ (k + 1) = 32 ^ k * 32 := Nat.pow_succ _ _
    have e2 : P5 b p (k + 1) = P5 b p k * 32 + (b (p + k) - 96) := rfl
    rw [e2, e]
    omega
theorem P5_40 {b : Nat → Int} {p k : Nat} (hk : k ≤ 8) (h : ∀ j, p ≤ j → j < p + k → sml (b j)) : 0 ≤ P5 b p k ∧ P5 b p k < 1099511627776 := by
  obtain ⟨h1, h2⟩ := P5_bd k h
  have h3 : (32 : Nat) ^ k ≤ 32 ^ 8 := Nat.pow_le_pow_right (by decide) hk
  have h4 : (32 : Nat) ^ 8 = 1099511627776 := by decide
  omega
theorem DC_bd {b : Nat → Int} {p : Nat} : ∀ k : Nat, (∀ j, p ≤ j → j < p + k → dgt (b j)) → 0 ≤ DC b p k ∧ DC b p k + 1 ≤ ((10 ^ k : Nat) : Int)
  | 0, _ => ⟨by show (0 : Int) ≤ 0; omega, by show (0 : Int) + 1 ≤ ((1 : Nat) : Int); omega⟩
  | k + 1, h => by
    obtain ⟨h1, h2⟩ := DC_bd k (fun j a c => h j a (by omega))
    have h3 := h (p + k) (by omega) (by omega)
    unfold dgt at h3
    have e : (10 : Nat) ^ (k + 1) = 10 ^ k * 10 := Nat.pow_succ _ _
    have e2 : DC b p (k + 1) = DC b p k * 10 + (b (p + k) - 48) := rfl
    rw [e2, e]
    omega
theorem DC_4 {b : Nat → Int} {p k : Nat} (hk : k ≤ 4) (h : ∀ j, p ≤ j → j < p + k → dgt (b j)) : 0 ≤ DC b p k ∧ DC b p k < 10000 := by
  obtain ⟨h1, h2⟩ := DC_bd k h
  have h3 : (10 : Nat) ^ k ≤ 10 ^ 4 := Nat.pow_le_pow_right (by decide) hk
  have h4 : (10 : Nat) ^ 4 = 10000 := by decide
  omega
theorem cup_row (g : cg) {k k' : Nat} (j : Nat) (z : Int) (h : k' ≠ k) : cup g k j z k' = g k' := by
  funext j'
  unfold cup
  rw [if_neg (fun e => h e.1)]
/-- nothing but the text's token is another -/
def FT (g' g : cg) : Prop := ∀ k j : Nat, ¬ (k = 88 ∧ 3 ≤ j ∧ j ≤ 9) → g' k j = g k j
theorem FT.rf (g : cg) : FT g g := fun _ _ _ => rfl
theorem FT.cup {g' g : cg} (h : FT g' g) {i : Nat} (z : Int) (hi : 3 ≤ i ∧ i ≤ 9) : FT (cup g' 88 i z) g := by
  intro k j hn
  rw [cup_ne (fun e => hn ⟨e.1, by rw [e.2]; exact hi⟩)]
  exact h k j hn
theorem FT.tr {a b c : cg} (h : FT a b) (h' : FT b c) : FT a c := fun k j hn => (h k j hn).trans (h' k j hn)
theorem FT.row {g' g : cg} (h : FT g' g) {k : Nat} (hk : k ≠ 88) : g' k = g k := by
  funext j
  exact h k j (fun e => hk e.1)
section Adv
variable {sv : Nat → Int32} {L : Nat} {o : cg × Option cv}
theorem adv_skip : ∀ (n : Nat) {lf : dlf} {g : cg} {p m : Nat}, lf 0 = (4, 88) → g 88 3 = (p : Int) → g 88 2 = (m : Int) → p ≤ m → m ≤ 900 → zr sv L n 37 0 lf [] g o → ∃ q lf', RN blk (g 2) m p q ∧ lf' 0 = (4, 88) ∧ zr sv L n 37 52 lf' [] (cup g 88 3 (q : Int)) o
  | 0, _, _, _, _, _, _, _, _, _, h => (zr_0 h).elim
  | n + 1, lf, g, p, m, h0, hp, hm, hpm, h9, h => by
    have go : blk (g 2 p) → p < m → ∀ lf', lf' 0 = (4, 88) → zr sv L n 37 0 lf' [] (cup g 88 3 ((p : Int) + 1)) o → ∃ q lf', RN blk (g 2) m p q ∧ lf' 0 = (4, 88) ∧ zr sv L (n + 1) 37 52 lf' [] (cup g 88 3 (q : Int)) o := by
      intro hb hlt lf' e1 h
      obtain ⟨q, lf2, a1, a2, a3⟩ := adv_skip n (p := p + 1) (m := m) e1 (by rw [cup_at]; omega) (by rw [cup_ne (by decide)]; exact hm) (by omega) h9 h
      rw [cup_over] at a3
      rw [cup_row g 3 _ (by decide)] at a1
      exact ⟨q, lf2, RN.step hb a1, a2, zr_m a3⟩
    rcases t_adv0 h h0 with ⟨hc, lf', e1, h⟩ | ⟨hc, h⟩
    · rw [hp, hm] at hc
      refine ⟨p, lf', RN.stop hpm (fun _ => by omega), e1, ?_⟩
      rw [cup_id hp]
      exact zr_m h
    · have h := h (by rw [hp]; omega) (by rw [hp]; omega)
      rw [hp, hm] at hc
      rw [hp] at h
      rw [show w32 ((p : Int) + 1) = (p : Int) + 1 from w32_id (by omega) (by omega)] at h
      rw [show ((p : Int)).toNat = p from rfl] at h
      rcases h with ⟨hb, lf', e1, h⟩ | ⟨hb, ⟨hb2, lf', e1, h⟩ | ⟨hb2, lf', e1, h⟩⟩
      · exact go (Or.inl hb) (by omega) lf' e1 h
      · refine ⟨p, lf', RN.stop hpm (fun _ e => ?_), e1, ?_⟩
        · rcases e with e | e
          · exact hb e
          · exact hb2 e
        · rw [cup_id hp]
          exact zr_m h
      · exact go (Or.inr hb2) (by omega) lf' e1 h
theorem min_le8 {a : Nat} (h : 8 ≤ a) : min a 8 = 8 := by omega
theorem adv_word : ∀ (n : Nat) {lf : dlf} {g : cg} {s p m : Nat}, lf 0 = (4, 88) → g 88 3 = (p : Int) → g 88 2 = (m : Int) → g 88 5 = (s : Int) → g 88 6 = P5 (g 2) s (min (p - s) 8) → s ≤ p → p ≤ m → m ≤ 900 → (∀ j, s ≤ j → j < p → sml (g 2 j)) → zr sv L n 37 140 lf [] g o → ∃ q lf', RN sml (g 2) m p q ∧ lf' 0 = (4, 88) ∧ zr sv L n 37 241 lf' [] (cup (cup g 88 6 (P5 (g 2) s (min (q - s) 8))) 88 3 (q : Int)) o
  | 0, _, _, _, _, _, _, _, _, _, _, _, _, _, _, h => (zr_0 h).elim
  | n + 1, lf, g, s, p, m, h0, hp, hm, hs, hw, hsp, hpm, h9, hl, h => by
    have stop : (p < m → ¬ sml (g 2 p)) → ∀ lf', lf' 0 = (4, 88) → zr sv L n 37 241 lf' [] g o → ∃ q lf', RN sml (g 2) m p q ∧ lf' 0 = (4, 88) ∧ zr sv L (n + 1) 37 241 lf' [] (cup (cup g 88 6 (P5 (g 2) s (min (q - s) 8))) 88 3 (q : Int)) o := by
      intro hb lf' e1 h
      refine ⟨p, lf', RN.stop hpm hb, e1, ?_⟩
      rw [cup_id hw, cup_id hp]
      exact zr_m h
    have go : sml (g 2 p) → p < m → ∀ (W : Int) lf', W = P5 (g 2) s (min (p + 1 - s) 8) → lf' 0 = (4, 88) → zr sv L n 37 140 lf' [] (cup (cup g 88 6 W) 88 3 ((p : Int) + 1)) o → ∃ q lf', RN sml (g 2) m p q ∧ lf' 0 = (4, 88) ∧ zr sv L (n + 1) 37 241 lf' [] (cup (cup g 88 6 (P5 (g 2) s (min (q - s) 8))) 88 3 (q : Int)) o := by
      intro hb hlt W lf' hW e1 h
      have er : cup (cup g 88 6 W) 88 3 ((p : Int) + 1) 2 = g 2 := by rw [cup_row _ 3 _ (by decide), cup_row _ 6 _ (by decide)]
      obtain ⟨q, lf2, a1, a2, a3⟩ := adv_word n (s := s) (p := p + 1) (m := m) e1 (by rw [cup_at]; omega) (by rw [cup_ne (by decide), cup_ne (by decide)]; exact hm) (by rw [cup_ne (by decide), cup_ne (by decide)]; exact hs) (by rw [er, cup_ne (by decide), cup_at]; exact hW) (by omega) (by omega) h9 (by
        rw [er]
        intro j c1 c2
        by_cases e : j = p
        · rw [e]; exact hb
        · exact hl j c1 (by omega)) h
      rw [er] at a1 a3
      refine ⟨q, lf2, RN.step hb a1, a2, ?_⟩
      rw [cup_comm (cup g 88 6 W) _ _ (Or.inr (by decide)), cup_over, cup_over] at a3
      exact zr_m a3
    rcases t_adv140 h h0 with ⟨hc, lf', e1, h⟩ | ⟨hc, h⟩
    · rw [hp, hm] at hc
      exact stop (fun _ => by omega) lf' e1 h
    · have h := h (by rw [hp]; omega) (by rw [hp]; omega)
      rw [hp, hm] at hc
      rw [hp, hs] at h
      rw [show w32 ((p : Int) + 1) = (p : Int) + 1 from w32_id (by omega) (by omega), show w32 ((p : Int) - (s : Int)) = (p : Int) - (s : Int) from w32_id (by omega) (by omega)] at h
      rw [show ((p : Int)).toNat = p from rfl] at h
      rcases h with ⟨hb, lf', e1, h⟩ | ⟨hb, ⟨hb2, lf', e1, h⟩ | ⟨hb2, ⟨hk, lf', e1, h⟩ | ⟨hk, lf', e1, h⟩⟩⟩
      · exact stop (fun _ e => by unfold sml at e; omega) lf' e1 h
      · exact stop (fun _ e => by unfold sml at e; omega) lf' e1 h
      · refine go ⟨hb, hb2⟩ (by omega) (g 88 6) lf' ?_ e1 h
        rw [hw, min_le8 (by omega), min_le8 (by omega)]
      · have hk8 : p - s < 8 := by omega
        have e2 : min (p - s) 8 = p - s := by omega
        have e3 : min (p + 1 - s) 8 = p - s + 1 := by omega
        have hbd := P5_40 (b := g 2) (p := s) (k := p - s) (by omega) (fun j c1 c2 => hl j c1 (by omega))
        rw [e2] at hw
        refine go ⟨hb, hb2⟩ (by omega) _ lf' ?_ e1 h
        rw [hw, e3]
        have e4 : P5 (g 2) s (p - s + 1) = P5 (g 2) s (p - s) * 32 + (g 2 (s + (p - s)) - 96) := rfl
        rw [e4, show s + (p - s) = p by omega]
        rw [w64_id (z := P5 (g 2) s (p - s) * 32) (by omega) (by omega), w32_id (z := g 2 p - 97) (by omega) (by omega), w32_id (by omega) (by omega), w64_id (by omega) (by omega)]
        omega
theorem adv_digs : ∀ (n : Nat) {lf : dlf} {g : cg} {s p m : Nat}, lf 0 = (4, 88) → g 88 3 = (p : Int) → g 88 2 = (m : Int) → g 88 5 = (s : Int) → g 88 8 = DC (g 2) s (min (p - s) 4) → s ≤ p → p ≤ m → m ≤ 900 → (∀ j, s ≤ j → j < p → dgt (g 2 j)) → zr sv L n 37 331 lf [] g o → ∃ q lf', RN dgt (g 2) m p q ∧ lf' 0 = (4, 88) ∧ zr sv L n 37 427 lf' [] (cup (cup g 88 8 (DC (g 2) s (min (q - s) 4))) 88 3 (q : Int)) o
  | 0, _, _, _, _, _, _, _, _, _, _, _, _, _, _, h => (zr_0 h).elim
  | n + 1, lf, g, s, p, m, h0, hp, hm, hs, hw, hsp, hpm, h9, hl, h => by
    have stop : (p < m → ¬ dgt (g 2 p)) → ∀ lf', lf' 0 = (4, 88) → zr sv L n 37 427 lf' [] g o → ∃ q lf', RN dgt (g 2) m p q ∧ lf' 0 = (4, 88) ∧ zr sv L (n + 1) 37 427 lf' [] (cup (cup g 88 8 (DC (g 2) s (min (q - s) 4))) 88 3 (q : Int)) o := by
      intro hb lf' e1 h
      refine ⟨p, lf', RN.stop hpm hb, e1, ?_⟩
      rw [cup_id hw, cup_id hp]
      exact zr_m h
    have go : dgt (g 2 p) → p < m → ∀ (W : Int) lf', W = DC (g 2) s (min (p + 1 - s) 4) → lf' 0 = (4, 88) → zr sv L n 37 331 lf' [] (cup (cup g 88 8 W) 88 3 ((p : Int) + 1)) o → ∃ q lf', RN dgt (g 2) m p q ∧ lf' 0 = (4, 88) ∧ zr sv L (n + 1) 37 427 lf' [] (cup (cup g 88 8 (DC (g 2) s (min (q - s) 4))) 88 3 (q : Int)) o := by
      intro hb hlt W lf' hW e1 h
      have er : cup (cup g 88 8 W) 88 3 ((p : Int) + 1) 2 = g 2 := by rw [cup_row _ 3 _ (by decide), cup_row _ 8 _ (by decide)]
      obtain ⟨q, lf2, a1, a2, a3⟩ := adv_digs n (s := s) (p := p + 1) (m := m) e1 (by rw [cup_at]; omega) (by rw [cup_ne (by decide), cup_ne (by decide)]; exact hm) (by rw [cup_ne (by decide), cup_ne (by decide)]; exact hs) (by rw [er, cup_ne (by decide), cup_at]; exact hW) (by omega) (by omega) h9 (by
        rw [er]
        intro j c1 c2
        by_cases e : j = p
        · rw [e]; exact hb
        · exact hl j c1 (by omega)) h
      rw [er] at a1 a3
      refine ⟨q, lf2, RN.step hb a1, a2, ?_⟩
      rw [cup_comm (cup g 88 8 W) _ _ (Or.inr (by decide)), cup_over, cup_over] at a3
      exact zr_m a3
    rcases t_adv331 h h0 with ⟨hc, lf', e1, h⟩ | ⟨hc, h⟩
    · rw [hp, hm] at hc
      exact stop (fun _ => by omega) lf' e1 h
    · have h := h (by rw [hp]; omega) (by rw [hp]; omega)
      rw [hp, hm] at hc
      rw [hp, hs] at h
      rw [show w32 ((p : Int) + 1) = (p : Int) + 1 from w32_id (by omega) (by omega), show w32 ((p : Int) - (s : Int)) = (p : Int) - (s : Int) from w32_id (by omega) (by omega)] at h
      rw [show ((p : Int)).toNat = p from rfl] at h
      rcases h with ⟨hb, lf', e1, h⟩ | ⟨hb, ⟨hb2, lf', e1, h⟩ | ⟨hb2, ⟨hk, lf', e1, h⟩ | ⟨hk, lf', e1, h⟩⟩⟩
      · exact stop (fun _ e => by unfold dgt at e; omega) lf' e1 h
      · exact stop (fun _ e => by unfold dgt at e; omega) lf' e1 h
      · refine go ⟨hb, hb2⟩ (by omega) (g 88 8) lf' ?_ e1 h
        rw [hw, show min (p - s) 4 = 4 by omega, show min (p + 1 - s) 4 = 4 by omega]
      · have e2 : min (p - s) 4 = p - s := by omega
        have e3 : min (p + 1 - s) 4 = p - s + 1 := by omega
        have hbd := DC_4 (b := g 2) (p := s) (k := p - s) (by omega) (fun j c1 c2 => hl j c1 (by omega))
        rw [e2] at hw
        refine go ⟨hb, hb2⟩ (by omega) _ lf' ?_ e1 h
        rw [hw, e3]
        have e4 : DC (g 2) s (p - s + 1) = DC (g 2) s (p - s) * 10 + (g 2 (s + (p - s)) - 48) := rfl
        rw [e4, show s + (p - s) = p by omega]
        rw [w32_id (z := DC (g 2) s (p - s) * 10) (by omega) (by omega), w32_id (z := g 2 p - 48) (by omega) (by omega), w32_id (by omega) (by omega)]
theorem adv_keys : ∀ (n : Nat) {lf : dlf} {g : cg} {i : Nat}, lf 0 = (4, 88) → lf 1 = (0, (i : Int)) → i ≤ 25 → g 88 4 = 2 → (∀ j, j < i → g 89 j ≠ g 88 6) → zr sv L n 37 266 lf [] g o → (∃ j, j < 25 ∧ g 89 j = g 88 6 ∧ o = (cup (cup g 88 4 1) 88 7 (j : Int), none)) ∨ ((∀ j, j < 25 → g 89 j ≠ g 88 6) ∧ o = (g, none))
  | 0, _, _, _, _, _, _, _, _, h => (zr_0 h).elim
  | n + 1, lf, g, i, h0, h1, hi, h2, hn, h => by
    rcases t_adv266 h h0 h1 with ⟨hc, h⟩ | ⟨hc, ⟨hd, h⟩ | ⟨hd, h⟩⟩
    · exact Or.inr ⟨fun j hj => hn j (by omega), h⟩
    · exact absurd h2 hd
    · have h := h (by omega) (by omega)
      rw [show ((i : Int)).toNat = i from rfl, show w32 ((i : Int) + 1) = ((i + 1 : Nat) : Int) from w32_id (z := (i : Int) + 1) (by omega) (by omega)] at h
      rcases h with ⟨he, lf', e1, e2, h⟩ | ⟨he, lf', e1, e2, h⟩
      · refine adv_keys n e1 e2 (by omega) h2 (fun j hj => ?_) h
        by_cases e : j = i
        · intro z
          exact he (csgn_z.mpr (by rw [← e, z]; omega))
        · exact hn j (by omega)
      · have he := csgn_z.mp he
        refine Or.inl ⟨i, by omega, by omega, ?_⟩
        cases n with
        | zero => exact (zr_0 h).elim
        | succ n =>
          rcases t_adv266 h e1 e2 with ⟨hc, h⟩ | ⟨hc, ⟨hd, h⟩ | ⟨hd, h⟩⟩
          · exact h
          · exact h
          · rw [cup_ne (by decide), cup_at] at hd
            exact absurd hd (by decide)
def TKC (b ks : Nat → Int) (m p : Nat) (g : cg) : Prop :=
  (p = m ∧ g 88 4 = 0 ∧ g 88 7 = -1 ∧ g 88 3 = (p : Int)) ∨
  (p < m ∧ sml (b p) ∧ ∃ q : Nat, RN sml b m p q ∧ g 88 3 = (q : Int) ∧ ((8 < q - p ∧ g 88 4 = 3 ∧ g 88 7 = -1) ∨ (q - p ≤ 8 ∧ g 88 6 = P5 b p (q - p) ∧ ((∃ i : Nat, i < 25 ∧ ks i = P5 b p (q - p) ∧ g 88 7 = (i : Int) ∧ g 88 4 = 1) ∨ ((∀ i, i < 25 → ks i ≠ P5 b p (q - p)) ∧ g 88 7 = -1 ∧ g 88 4 = 2))))) ∨
  (p < m ∧ dgt (b p) ∧ ∃ q : Nat, RN dgt b m p q ∧ g 88 3 = (q : Int) ∧ g 88 7 = -1 ∧ ((4 < q - p ∧ g 88 4 = 6) ∨ (q - p ≤ 4 ∧ g 88 4 = 4 ∧ g 88 8 = DC b p (q - p)))) ∨
  (p < m ∧ sgn (b p) ∧ g 88 3 = (p : Int) + 1 ∧ g 88 4 = 5 ∧ g 88 9 = b p ∧ g 88 7 = -1) ∨
  (p < m ∧ ¬ sml (b p) ∧ ¬ dgt (b p) ∧ ¬ sgn (b p) ∧ g 88 4 = 6 ∧ g 88 7 = -1)
/-- letters, from where the token begins -/
theorem adv_w {n : Nat} {lf : dlf} {g : cg} {p m : Nat} (h0 : lf 0 = (4, 88)) (hp : g 88 3 = (p : Int)) (hm : g 88 2 = (m : Int)) (hs : g 88 5 = (p : Int)) (hw : g 88 6 = 0) (hk : g 88 7 = -1) (hpm : p < m) (h9 : m ≤ 900) (hb : sml (g 2 p)) (h : zr sv L n 37 140 lf [] g o) : FT o.1 g ∧ o.1 88 5 = (p : Int) ∧ TKC (g 2) (g 89) m p o.1 := by
  obtain ⟨q, lf1, hR, e0, h⟩ := adv_word n (s := p) h0 hp hm hs (by rw [hw, Nat.sub_self]; rfl) (Nat.le_refl _) (by omega) h9 (fun j a c => by omega) h
  have hq : p < q := by
    rcases Nat.lt_or_ge p q with e | e
    · exact e
    · exact absurd hb (by
        have e2 : q = p := by have := hR.1; omega
        rw [e2] at hR
        exact hR.2.2.2 hpm)
  have hq9 : q ≤ 900 := by have := hR.2.1; omega
  generalize hG : cup (cup g 88 6 (P5 (g 2) p (min (q - p) 8))) 88 3 (q : Int) = G at h
  have f1 : FT G g := by rw [← hG]; exact ((FT.rf g).cup _ (by decide)).cup _ (by decide)
  have g3 : G 88 3 = (q : Int) := by rw [← hG, cup_at]
  have g6 : G 88 6 = P5 (g 2) p (min (q - p) 8) := by rw [← hG, cup_ne (by decide), cup_at]
  have g5 : G 88 5 = (p : Int) := by rw [← hG, cup_ne (by decide), cup_ne (by decide)]; exact hs
  have g7 : G 88 7 = -1 := by rw [← hG, cup_ne (by decide), cup_ne (by decide)]; exact hk
  have gk : G 89 = g 89 := f1.row (by decide)
  rcases t_adv241 h e0 with ⟨hc, lf2, e1, e2, h⟩ | ⟨hc, lf2, e1, e2, h⟩
  · rw [g3, g5, w32_id (by omega) (by omega)] at hc
    have e8 : min (q - p) 8 = q - p := by omega
    rw [e8] at g6
    have c6 : cup G 88 4 2 88 6 = P5 (g 2) p (q - p) := by rw [cup_ne (by decide)]; exact g6
    have ck : cup G 88 4 2 89 = g 89 := by rw [cup_row _ 4 _ (by decide)]; exact gk
    rcases adv_keys n (i := 0) e1 e2 (by decide) (by rw [cup_at]) (fun j hj => absurd hj (Nat.not_lt_zero j)) h with ⟨j, hj, he, ho⟩ | ⟨hn, ho⟩
    · rw [c6, ck] at he
      rw [ho]
      refine ⟨((f1.cup _ (by decide)).cup _ (by decide)).cup _ (by decide), ?_, Or.inr (Or.inl ⟨hpm, hb, q, hR, ?_, Or.inr ⟨by omega, ?_, Or.inl ⟨j, hj, he, ?_, ?_⟩⟩⟩)⟩
      · show cup (cup (cup G 88 4 2) 88 4 1) 88 7 (j : Int) 88 5 = _
        rw [cup_ne (by decide), cup_ne (by decide), cup_ne (by decide)]; exact g5
      · show cup (cup (cup G 88 4 2) 88 4 1) 88 7 (j : Int) 88 3 = _
        rw [cup_ne (by decide), cup_ne (by decide), cup_ne (by decide)]; exact g3
      · show cup (cup (cup G 88 4 2) 88 4 1) 88 7 (j : Int) 88 6 = _
        rw [cup_ne (by decide), cup_ne (by decide), cup_ne (by decide)]; exact g6
      · show cup (cup (cup G 88 4 2) 88 4 1) 88 7 (j : Int) 88 7 = (j : Int)
        rw [cup_at]
      · show cup (cup (cup G 88 4 2) 88 4 1) 88 7 (j : Int) 88 4 = _
        rw [cup_ne (by decide), cup_at]
    · rw [c6, ck] at hn
      rw [ho]
      refine ⟨f1.cup _ (by decide), ?_, Or.inr (Or.inl ⟨hpm, hb, q, hR, ?_, Or.inr ⟨by omega, ?_, Or.inr ⟨hn, ?_, ?_⟩⟩⟩)⟩
      · show cup G 88 4 2 88 5 = _
        rw [cup_ne (by decide)]; exact g5
      · show cup G 88 4 2 88 3 = _
        rw [cup_ne (by decide)]; exact g3
      · exact c6
      · show cup G 88 4 2 88 7 = _
        rw [cup_ne (by decide)]; exact g7
      · show cup G 88 4 2 88 4 = _
        rw [cup_at]
  · rw [g3, g5, w32_id (by omega) (by omega)] at hc
    have ho : o = (cup G 88 4 3, none) := by
      cases n with
      | zero => exact (zr_0 h).elim
      | succ n =>
        rcases t_adv266 h e1 e2 with ⟨hd, h⟩ | ⟨hd, ⟨hd, h⟩ | ⟨hd, h⟩⟩
        · exact h
        · exact h
        · rw [cup_at] at hd
          exact absurd hd (by decide)
    rw [ho]
    refine ⟨f1.cup _ (by decide), ?_, Or.inr (Or.inl ⟨hpm, hb, q, hR, ?_, Or.inl ⟨by omega, ?_, ?_⟩⟩)⟩
    · show cup G 88 4 3 88 5 = _
      rw [cup_ne (by decide)]; exact g5
    · show cup G 88 4 3 88 3 = _
      rw [cup_ne (by decide)]; exact g3
    · show cup G 88 4 3 88 4 = _
      rw [cup_at]
    · show cup G 88 4 3 88 7 = _
      rw [cup_ne (by decide)]; exact g7
/-- digits -/
theorem adv_d {n : Nat} {lf : dlf} {g : cg} {p m : Nat} (h0 : lf 0 = (4, 88)) (hp : g 88 3 = (p : Int)) (hm : g 88 2 = (m : Int)) (hs : g 88 5 = (p : Int)) (hw : g 88 8 = 0) (hk : g 88 7 = -1) (hpm : p < m) (h9 : m ≤ 900) (hb : dgt (g 2 p)) (h : zr sv L n 37 331 lf [] g o) : FT o.1 g ∧ o.1 88 5 = (p : Int) ∧ TKC (g 2) (g 89) m p o.1 := by
  obtain ⟨q, lf1, hR, e0, h⟩ := adv_digs n (s := p) h0 hp hm hs (by rw [hw, Nat.sub_self]; rfl) (Nat.le_refl _) (by omega) h9 (fun j a c => by omega) h
  have hq9 : q ≤ 900 := by have := hR.2.1; omega
  have hq1 := hR.1
  generalize hG : cup (cup g 88 8 (DC (g 2) p (min (q - p) 4))) 88 3 (q : Int) = G at h
  have f1 : FT G g := by rw [← hG]; exact ((FT.rf g).cup _ (by decide)).cup _ (by decide)
  have g3 : G 88 3 = (q : Int) := by rw [← hG, cup_at]
  have g8 : G 88 8 = DC (g 2) p (min (q - p) 4) := by rw [← hG, cup_ne (by decide), cup_at]
  have g5 : G 88 5 = (p : Int) := by rw [← hG, cup_ne (by decide), cup_ne (by decide)]; exact hs
  have g7 : G 88 7 = -1 := by rw [← hG, cup_ne (by decide), cup_ne (by decide)]; exact hk
  rcases t_adv427 h e0 with ⟨hc, ho⟩ | ⟨hc, ho⟩
  · rw [g3, g5, w32_id (by omega) (by omega)] at hc
    rw [show min (q - p) 4 = q - p by omega] at g8
    rw [ho]
    refine ⟨f1.cup _ (by decide), ?_, Or.inr (Or.inr (Or.inl ⟨hpm, hb, q, hR, ?_, ?_, Or.inr ⟨by omega, ?_, ?_⟩⟩))⟩
    · show cup G 88 4 4 88 5 = _
      rw [cup_ne (by decide)]; exact g5
    · show cup G 88 4 4 88 3 = _
      rw [cup_ne (by decide)]; exact g3
    · show cup G 88 4 4 88 7 = _
      rw [cup_ne (by decide)]; exact g7
    · show cup G 88 4 4 88 4 = _
      rw [cup_at]
    · show cup G 88 4 4 88 8 = _
      rw [cup_ne (by decide)]; exact g8
  · rw [g3, g5, w32_id (by omega) (by omega)] at hc
    rw [ho]
    refine ⟨f1.cup _ (by decide), ?_, Or.inr (Or.inr (Or.inl ⟨hpm, hb, q, hR, ?_, ?_, Or.inl ⟨by omega, ?_⟩⟩))⟩
    · show cup G 88 4 6 88 5 = _
      rw [cup_ne (by decide)]; exact g5
    · show cup G 88 4 6 88 3 = _
      rw [cup_ne (by decide)]; exact g3
    · show cup G 88 4 6 88 7 = _
      rw [cup_ne (by decide)]; exact g7
    · show cup G 88 4 6 88 4 = _
      rw [cup_at]
end Adv
