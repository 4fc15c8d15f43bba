/-! advance() and ahead() as a whole -/
section Adv2
variable {sv : Nat → Int32} {L : Nat} {o : cg × Option cv}
theorem adv_sg {n : Nat} {lf : dlf} {g : cg} {p m : Nat} (h0 : lf 0 = (4, 88)) (hp : g 88 3 = (p : Int)) (hs : g 88 5 = (p : Int)) (h9' : g 88 9 = g 2 p) (hk : g 88 7 = -1) (hpm : p < m) (h9 : m ≤ 900) (hb1 : ¬ sml (g 2 p)) (hb2 : ¬ dgt (g 2 p)) (h : zr sv L n 37 453 lf [] g o) : FT o.1 g ∧ o.1 88 5 = (p : Int) ∧ TKC (g 2) (g 89) m p o.1 := by
  have yes : sgn (g 2 p) → o = (cup (cup g 88 4 5) 88 3 (w32 ((g 88 3) + 1)), none) → FT o.1 g ∧ o.1 88 5 = (p : Int) ∧ TKC (g 2) (g 89) m p o.1 := by
    intro hsg ho
    rw [hp, w32_id (by omega) (by omega)] at ho
    rw [ho]
    refine ⟨((FT.rf g).cup _ (by decide)).cup _ (by decide), ?_, Or.inr (Or.inr (Or.inr (Or.inl ⟨hpm, hsg, ?_, ?_, ?_, ?_⟩)))⟩
    · show cup (cup g 88 4 5) 88 3 ((p : Int) + 1) 88 5 = _
      rw [cup_ne (by decide), cup_ne (by decide)]; exact hs
    · show cup (cup g 88 4 5) 88 3 ((p : Int) + 1) 88 3 = (p : Int) + 1
      rw [cup_at]
    · show cup (cup g 88 4 5) 88 3 ((p : Int) + 1) 88 4 = _
      rw [cup_ne (by decide), cup_at]
    · show cup (cup g 88 4 5) 88 3 ((p : Int) + 1) 88 9 = _
      rw [cup_ne (by decide), cup_ne (by decide)]; exact h9'
    · show cup (cup g 88 4 5) 88 3 ((p : Int) + 1) 88 7 = _
      rw [cup_ne (by decide), cup_ne (by decide)]; exact hk
  have h := t_adv453 h h0
  rw [h9'] at h
  rcases h with ⟨hc, h⟩ | ⟨hc, ⟨hd, h⟩ | ⟨hd, ⟨he, h⟩ | ⟨he, ⟨hf, h⟩ | ⟨hf, h⟩⟩⟩⟩
  · exact yes (Or.inl hc) h
  · exact yes (Or.inr (Or.inl hd)) h
  · exact yes (Or.inr (Or.inr (Or.inr he))) h
  · rw [h]
    refine ⟨(FT.rf g).cup _ (by decide), ?_, Or.inr (Or.inr (Or.inr (Or.inr ⟨hpm, hb1, hb2, ?_, ?_, ?_⟩)))⟩
    · show cup g 88 4 6 88 5 = _
      rw [cup_ne (by decide)]; exact hs
    · intro e
      unfold sgn at e
      omega
    · show cup g 88 4 6 88 4 = _
      rw [cup_at]
    · show cup g 88 4 6 88 7 = _
      rw [cup_ne (by decide)]; exact hk
  · exact yes (Or.inr (Or.inr (Or.inl hf))) h
theorem adv_tok {n : Nat} {lf : dlf} {g : cg} {p m : Nat} (h0 : lf 0 = (4, 88)) (hp : g 88 3 = (p : Int)) (hm : g 88 2 = (m : Int)) (hpm : p ≤ m) (h9 : m ≤ 900) (h : zr sv L n 37 52 lf [] g o) : FT o.1 g ∧ o.1 88 5 = (p : Int) ∧ TKC (g 2) (g 89) m p o.1 := by
  rcases t_adv52 h h0 with ⟨hc, h⟩ | ⟨hc, h⟩
  · rw [hp, hm] at hc
    rw [h]
    refine ⟨((((((FT.rf g).cup _ (by decide)).cup _ (by decide)).cup _ (by decide)).cup _ (by decide)).cup _ (by decide)).cup _ (by decide), ?_, Or.inl ⟨by omega, ?_, ?_, ?_⟩⟩
    · show cup (cup (cup (cup (cup (cup g 88 5 (g 88 3)) 88 7 (-1)) 88 6 0) 88 8 0) 88 9 0) 88 4 0 88 5 = _
      rw [cup_ne (by decide), cup_ne (by decide), cup_ne (by decide), cup_ne (by decide), cup_ne (by decide), cup_at]; exact hp
    · show cup (cup (cup (cup (cup (cup g 88 5 (g 88 3)) 88 7 (-1)) 88 6 0) 88 8 0) 88 9 0) 88 4 0 88 4 = _
      rw [cup_at]
    · show cup (cup (cup (cup (cup (cup g 88 5 (g 88 3)) 88 7 (-1)) 88 6 0) 88 8 0) 88 9 0) 88 4 0 88 7 = _
      rw [cup_ne (by decide), cup_ne (by decide), cup_ne (by decide), cup_ne (by decide), cup_at]
    · show cup (cup (cup (cup (cup (cup g 88 5 (g 88 3)) 88 7 (-1)) 88 6 0) 88 8 0) 88 9 0) 88 4 0 88 3 = _
      rw [cup_ne (by decide), cup_ne (by decide), cup_ne (by decide), cup_ne (by decide), cup_ne (by decide), cup_ne (by decide)]; exact hp
  · have h := h (by rw [hp]; omega) (by rw [hp, hm] at hc; rw [hp]; omega)
    rw [hp, hm] at hc
    have hpm' : p < m := by omega
    have ec : g 2 ((g 88 3).toNat) = g 2 p := by rw [hp]; rfl
    rw [ec] at h
    have eh : ∀ lf', lf' 0 = (4, 88) → ∀ pc, zr sv L n 37 pc lf' [] (cup (cup (cup (cup (cup g 88 5 (g 88 3)) 88 7 (-1)) 88 6 0) 88 8 0) 88 9 (g 2 p)) o → ∃ G : cg, FT G g ∧ G 88 3 = (p : Int) ∧ G 88 2 = (m : Int) ∧ G 88 5 = (p : Int) ∧ G 88 7 = -1 ∧ G 88 6 = 0 ∧ G 88 8 = 0 ∧ G 88 9 = G 2 p ∧ G 2 = g 2 ∧ G 89 = g 89 ∧ zr sv L n 37 pc lf' [] G o := by
      intro lf' e1 pc h
      have f : FT (cup (cup (cup (cup (cup g 88 5 (g 88 3)) 88 7 (-1)) 88 6 0) 88 8 0) 88 9 (g 2 p)) g := (((((FT.rf g).cup _ (by decide)).cup _ (by decide)).cup _ (by decide)).cup _ (by decide)).cup _ (by decide)
      refine ⟨_, f, ?_, ?_, ?_, ?_, ?_, ?_, ?_, f.row (by decide), f.row (by decide), h⟩
      · rw [cup_ne (by decide), cup_ne (by decide), cup_ne (by decide), cup_ne (by decide), cup_ne (by decide)]; exact hp
      · rw [cup_ne (by decide), cup_ne (by decide), cup_ne (by decide), cup_ne (by decide), cup_ne (by decide)]; exact hm
      · rw [cup_ne (by decide), cup_ne (by decide), cup_ne (by decide), cup_ne (by decide), cup_at]; exact hp
      · rw [cup_ne (by decide), cup_ne (by decide), cup_ne (by decide), cup_at]
      · rw [cup_ne (by decide), cup_ne (by decide), cup_at]
      · rw [cup_ne (by decide), cup_at]
      · rw [f.row (k := 2) (by decide), cup_at]
    have fin : ∀ {G : cg}, FT G g → G 2 = g 2 → G 89 = g 89 → FT o.1 G ∧ o.1 88 5 = (p : Int) ∧ TKC (G 2) (G 89) m p o.1 → FT o.1 g ∧ o.1 88 5 = (p : Int) ∧ TKC (g 2) (g 89) m p o.1 := by
      intro G f e1 e2 h
      rw [e1, e2] at h
      exact ⟨h.1.tr f, h.2⟩
    rcases h with ⟨hb, ⟨hb2, lf', e1, h⟩ | ⟨hb2, ⟨hb3, lf', e1, h⟩ | ⟨hb3, lf', e1, h⟩⟩⟩ | ⟨hb, ⟨hb2, lf', e1, h⟩ | ⟨hb2, lf', e1, h⟩⟩
    · obtain ⟨G, f, a3, a2, a5, a7, a6, a8, a9, ab, ak, h⟩ := eh lf' e1 _ h
      exact fin f ab ak (adv_sg e1 a3 a5 a9 a7 hpm' h9 (by rw [ab]; unfold sml; omega) (by rw [ab]; unfold dgt; omega) h)
    · obtain ⟨G, f, a3, a2, a5, a7, a6, a8, a9, ab, ak, h⟩ := eh lf' e1 _ h
      exact fin f ab ak (adv_sg e1 a3 a5 a9 a7 hpm' h9 (by rw [ab]; unfold sml; omega) (by rw [ab]; unfold dgt; omega) h)
    · obtain ⟨G, f, a3, a2, a5, a7, a6, a8, a9, ab, ak, h⟩ := eh lf' e1 _ h
      exact fin f ab ak (adv_d e1 a3 a2 a5 a8 a7 hpm' h9 (by rw [ab]; unfold dgt; omega) h)
    · obtain ⟨G, f, a3, a2, a5, a7, a6, a8, a9, ab, ak, h⟩ := eh lf' e1 _ h
      exact fin f ab ak (adv_sg e1 a3 a5 a9 a7 hpm' h9 (by rw [ab]; unfold sml; omega) (by rw [ab]; unfold dgt; omega) h)
    · obtain ⟨G, f, a3, a2, a5, a7, a6, a8, a9, ab, ak, h⟩ := eh lf' e1 _ h
      exact fin f ab ak (adv_w e1 a3 a2 a5 a6 a7 hpm' h9 (by rw [ab]; unfold sml; omega) h)
/-- advance(): the class's next token -/
theorem adv_ok {n : Nat} {lf : dlf} {g : cg} {a m : Nat} (h0 : lf 0 = (4, 88)) (hp : g 88 3 = (a : Int)) (hm : g 88 2 = (m : Int)) (hpm : a ≤ m) (h9 : m ≤ 900) (h : zr sv L n 37 0 lf [] g o) : FT o.1 g ∧ ∃ p, RN blk (g 2) m a p ∧ o.1 88 5 = (p : Int) ∧ TKC (g 2) (g 89) m p o.1 := by
  obtain ⟨p, lf', hR, e1, h⟩ := adv_skip n h0 hp hm hpm h9 h
  have f : FT (cup g 88 3 (p : Int)) g := (FT.rf g).cup _ (by decide)
  obtain ⟨b1, b2, b3⟩ := adv_tok e1 (m := m) (p := p) (by rw [cup_at]) (by rw [cup_ne (by decide)]; exact hm) hR.2.1 h9 h
  rw [f.row (k := 2) (by decide), f.row (k := 89) (by decide)] at b3
  exact ⟨b1.tr f, p, hR, b2, b3⟩
end Adv2
/-! the reference -/
/-- nothing but the reference's token is another -/
def FM (g' g : cg) : Prop := ∀ k j : Nat, ¬ (k = 253 ∧ 12 ≤ j ∧ j ≤ 15) → g' k j = g k j
theorem FM.rf (g : cg) : FM g g := fun _ _ _ => rfl
theorem FM.cup {g' g : cg} (h : FM g' g) {i : Nat} (z : Int) (hi : 12 ≤ i ∧ i ≤ 15) : FM (cup g' 253 i z) g := by
  intro k j hn
  rw [cup_ne (fun e => hn ⟨e.1, by rw [e.2]; exact hi⟩)]
  exact h k j hn
theorem FM.tr {a b c : cg} (h : FM a b) (h' : FM b c) : FM a c := fun k j hn => (h k j hn).trans (h' k j hn)
theorem FM.row {g' g : cg} (h : FM g' g) {k : Nat} (hk : k ≠ 253) : g' k = g k := by
  funext j
  exact h k j (fun e => hk e.1)
theorem and255 : ∀ k : Nat, k < 256 → (i32 ((k : Int) - 128) &&& i32 255).toInt = ((k : Int) - 128) % 256 := by decide +kernel
theorem and255' {x : Int} (h0 : -128 ≤ x) (h1 : x ≤ 127) : (i32 x &&& i32 255).toInt = x % 256 := by
  have h := and255 (x + 128).toNat (by omega)
  rw [show (((x + 128).toNat : Nat) : Int) - 128 = x by omega] at h
  exact h
/-- the reference's bytes -/
def mb (g : cg) (j : Nat) : Int := g 260 j % 256
def MBY (g : cg) : Prop := ∀ j : Nat, j < 900 → -128 ≤ g 260 j ∧ g 260 j ≤ 127
theorem FM.mb {g' g : cg} (h : FM g' g) : mb g' = mb g := by
  funext j
  show g' 260 j % 256 = g 260 j % 256
  rw [h.row (k := 260) (by decide)]
section Ahd
variable {sv : Nat → Int32} {L : Nat} {o : cg × Option cv}
theorem byt_ok {n : Nat} {lf : dlf} {g g1 : cg} {r : Int} {p m : Nat} (h : zr sv L n 167 0 lf [] g (g1, some (0, r))) (h0 : lf 0 = (4, 253)) (h1 : lf 1 = (0, (p : Int))) (hm : g 253 11 = (m : Int)) (h9 : m ≤ 900) (hB : MBY g) : g1 = g ∧ ((m ≤ p ∧ r = -1) ∨ (p < m ∧ r = mb g p)) := by
  rcases t_byteAt h h0 h1 with ⟨hc, h⟩ | ⟨hc, h⟩
  · rw [hm] at hc
    have h := Prod.mk.inj h
    have h2 := (Prod.mk.inj (Option.some.inj h.2)).2
    exact ⟨h.1, Or.inl ⟨by omega, h2⟩⟩
  · rw [hm] at hc
    have h := h (by omega) (by omega)
    have h := Prod.mk.inj h
    have h2 := (Prod.mk.inj (Option.some.inj h.2)).2
    rw [show ((p : Int)).toNat = p from rfl] at h2
    have hb := hB p (by omega)
    rw [and255' hb.1 hb.2] at h2
    exact ⟨h.1, Or.inr ⟨by omega, h2⟩⟩
theorem sml_ok {n : Nat} {lf : dlf} {g g1 : cg} {a r : Int} (h : zr sv L n 168 0 lf [] g (g1, some (0, r))) (h0 : lf 0 = (0, a))  : g1 = g ∧ ((sml a ∧ r = 1) ∨ (¬ sml a ∧ r = 0)) := by
  unfold sml
  rcases t_isSmall h h0 with ⟨hc, h⟩ | ⟨hc, ⟨hd, h⟩ | ⟨hd, h⟩⟩ <;> have h := Prod.mk.inj h <;> have h2 := (Prod.mk.inj (Option.some.inj h.2)).2 <;> refine ⟨h.1, ?_⟩ <;> omega
theorem dgt_ok {n : Nat} {lf : dlf} {g g1 : cg} {a r : Int} (h : zr sv L n 169 0 lf [] g (g1, some (0, r))) (h0 : lf 0 = (0, a))  : g1 = g ∧ ((dgt a ∧ r = 1) ∨ (¬ dgt a ∧ r = 0)) := by
  unfold dgt
  rcases t_isDigit h h0 with ⟨hc, h⟩ | ⟨hc, ⟨hd, h⟩ | ⟨hd, h⟩⟩ <;> have h := Prod.mk.inj h <;> have h2 := (Prod.mk.inj (Option.some.inj h.2)).2 <;> refine ⟨h.1, ?_⟩ <;> omega
theorem min_ok {n : Nat} {lf : dlf} {g g1 : cg} {a b r : Int} (h : zr sv L n 36 0 lf [] g (g1, some (0, r))) (h0 : lf 0 = (0, a)) (h1 : lf 1 = (0, b))  : g1 = g ∧ ((b < a ∧ r = b) ∨ (a ≤ b ∧ r = a)) := by
  rcases t_min h h0 h1 with ⟨hc, h⟩ | ⟨hc, h⟩ <;> have h := Prod.mk.inj h <;> have h2 := (Prod.mk.inj (Option.some.inj h.2)).2 <;> refine ⟨h.1, ?_⟩ <;> omega
theorem ahd_skip : ∀ (n : Nat) {lf : dlf} {g : cg} {p m : Nat}, lf 0 = (4, 253) → g 253 14 = (p : Int) → g 253 11 = (m : Int) → MBY g → p ≤ m → m ≤ 900 → zr sv L n 166 0 lf [] g o → ∃ q lf', RN blk (mb g) m p q ∧ lf' 0 = (4, 253) ∧ zr sv L n 166 39 lf' [] (cup g 253 14 (q : Int)) o
  | 0, _, _, _, _, _, _, _, _, _, _, h => (zr_0 h).elim
  | n + 1, lf, g, p, m, h0, hp, hm, hB, hpm, h9, h => by
    have go : blk (mb g p) → p < m → ∀ lf', lf' 0 = (4, 253) → zr sv L n 166 0 lf' [] (cup g 253 14 ((p : Int) + 1)) o → ∃ q lf', RN blk (mb g) m p q ∧ lf' 0 = (4, 253) ∧ zr sv L (n + 1) 166 39 lf' [] (cup g 253 14 (q : Int)) o := by
      intro hb hlt lf' e1 h
      have f : FM (cup g 253 14 ((p : Int) + 1)) g := (FM.rf g).cup _ (by decide)
      obtain ⟨q, lf2, a1, a2, a3⟩ := ahd_skip n (p := p + 1) (m := m) e1 (by rw [cup_at]; omega) (by rw [cup_ne (by decide)]; exact hm) (by unfold MBY; rw [f.row (by decide)]; exact hB) (by omega) h9 h
      rw [cup_over] at a3
      rw [f.mb] at a1
      exact ⟨q, lf2, RN.step hb a1, a2, zr_m a3⟩
    obtain ⟨g1, r2, k1, h⟩ := t_ahd0 h h0
    rw [hp] at k1
    obtain ⟨e1, k1⟩ := byt_ok (p := p) k1 rfl rfl hm h9 hB
    rw [e1] at h
    rw [hp, show w32 ((p : Int) + 1) = (p : Int) + 1 from w32_id (by omega) (by omega)] at h
    rcases h with ⟨hb, lf', e1, h⟩ | ⟨hb, g5, r6, k2, h⟩
    · rcases k1 with ⟨c1, c2⟩ | ⟨c1, c2⟩
      · omega
      · exact go (Or.inl (by omega)) c1 lf' e1 h
    · obtain ⟨e2, k2⟩ := byt_ok (p := p) k2 rfl rfl hm h9 hB
      rw [e2] at h
      rw [hp, show w32 ((p : Int) + 1) = (p : Int) + 1 from w32_id (by omega) (by omega)] at h
      rcases h with ⟨hb2, lf', e1, h⟩ | ⟨hb2, lf', e1, h⟩
      · refine ⟨p, lf', RN.stop hpm (fun c e => ?_), e1, ?_⟩
        · unfold blk at e
          omega
        · rw [cup_id hp]
          exact zr_m h
      · rcases k2 with ⟨c1, c2⟩ | ⟨c1, c2⟩
        · omega
        · exact go (Or.inr (by omega)) c1 lf' e1 h
theorem ahd_word : ∀ (n : Nat) {lf : dlf} {g : cg} {p m : Nat}, lf 0 = (4, 253) → g 253 14 = (p : Int) → g 253 11 = (m : Int) → MBY g → p ≤ m → m ≤ 900 → zr sv L n 166 81 lf [] g o → ∃ q lf', RN sml (mb g) m p q ∧ lf' 0 = (4, 253) ∧ zr sv L n 166 108 lf' [] (cup g 253 14 (q : Int)) o
  | 0, _, _, _, _, _, _, _, _, _, _, h => (zr_0 h).elim
  | n + 1, lf, g, p, m, h0, hp, hm, hB, hpm, h9, h => by
    obtain ⟨g1, r2, k1, g3, r4, k2, h⟩ := t_ahd81 h h0
    rw [hp] at k1
    obtain ⟨e1, k1⟩ := byt_ok (p := p) k1 rfl rfl hm h9 hB
    rw [e1] at k2
    obtain ⟨e2, k2⟩ := sml_ok k2 rfl
    rw [e2] at h
    rw [hp, show w32 ((p : Int) + 1) = (p : Int) + 1 from w32_id (by omega) (by omega)] at h
    rcases h with ⟨hb, lf', e1, h⟩ | ⟨hb, lf', e1, h⟩
    · refine ⟨p, lf', RN.stop hpm (fun c e => ?_), e1, ?_⟩
      · rcases k1 with ⟨c1, c2⟩ | ⟨c1, c2⟩
        · omega
        · rw [← c2] at e
          rcases k2 with ⟨d1, d2⟩ | ⟨d1, d2⟩
          · omega
          · exact d1 e
      · rw [cup_id hp]
        exact zr_m h
    · have hs : sml r2 := by
        rcases k2 with ⟨d1, d2⟩ | ⟨d1, d2⟩
        · exact d1
        · omega
      have hlt : p < m ∧ r2 = mb g p := by
        rcases k1 with ⟨c1, c2⟩ | c
        · unfold sml at hs; omega
        · exact c
      have f : FM (cup g 253 14 ((p : Int) + 1)) g := (FM.rf g).cup _ (by decide)
      obtain ⟨q, lf2, a1, a2, a3⟩ := ahd_word n (p := p + 1) (m := m) e1 (by rw [cup_at]; omega) (by rw [cup_ne (by decide)]; exact hm) (by unfold MBY; rw [f.row (by decide)]; exact hB) (by omega) h9 h
      rw [cup_over] at a3
      rw [f.mb] at a1
      exact ⟨q, lf2, RN.step (by rw [← hlt.2]; exact hs) a1, a2, zr_m a3⟩
theorem ahd_digs : ∀ (n : Nat) {lf : dlf} {g : cg} {s p m : Nat}, lf 0 = (4, 253) → g 253 14 = (p : Int) → g 253 11 = (m : Int) → MBY g → s ≤ p → p ≤ m → m ≤ 900 → (∀ j, s ≤ j → j < p → dgt (mb g j)) → 0 ≤ g 253 15 → g 253 15 ≤ 100000 → (p - s ≤ 4 → g 253 15 = DC (mb g) s (p - s)) → zr sv L n 166 128 lf [] g o → ∃ q lf' V, RN dgt (mb g) m p q ∧ lf' 0 = (4, 253) ∧ (q - s ≤ 4 → V = DC (mb g) s (q - s)) ∧ zr sv L n 166 183 lf' [] (cup (cup g 253 15 V) 253 14 (q : Int)) o
  | 0, _, _, _, _, _, _, _, _, _, _, _, _, _, _, _, _, h => (zr_0 h).elim
  | n + 1, lf, g, s, p, m, h0, hp, hm, hB, hsp, hpm, h9, hl, hv0, hv1, hv, h => by
    obtain ⟨g1, r2, k1, g3, r4, k2, h⟩ := t_ahd128 h h0
    rw [hp] at k1
    obtain ⟨e1, k1⟩ := byt_ok (p := p) k1 rfl rfl hm h9 hB
    rw [e1] at k2
    obtain ⟨e2, k2⟩ := dgt_ok k2 rfl
    rw [e2] at h
    rcases h with ⟨hb, lf', e1, h⟩ | ⟨hb, g7, r8, k3, g9, r10, k4, lf', e1, h⟩
    · refine ⟨p, lf', g 253 15, RN.stop hpm (fun c e => ?_), e1, hv, ?_⟩
      · rcases k1 with ⟨c1, c2⟩ | ⟨c1, c2⟩
        · omega
        · rw [← c2] at e
          rcases k2 with ⟨d1, d2⟩ | ⟨d1, d2⟩
          · omega
          · exact d1 e
      · rw [cup_id rfl, cup_id hp]
        exact zr_m h
    · rw [hp] at k3
      obtain ⟨e3, k3⟩ := byt_ok (p := p) k3 rfl rfl hm h9 hB
      rw [e3] at k4
      obtain ⟨e4, k4⟩ := min_ok k4 rfl rfl
      rw [e4] at h
      have hs : dgt r2 := by
        rcases k2 with ⟨d1, d2⟩ | ⟨d1, d2⟩
        · exact d1
        · omega
      have hlt : p < m ∧ r2 = mb g p := by
        rcases k1 with ⟨c1, c2⟩ | c
        · unfold dgt at hs; omega
        · exact c
      have h8 : r8 = mb g p := by
        rcases k3 with ⟨c1, c2⟩ | c
        · omega
        · exact c.2
      rw [hp, show w32 ((p : Int) + 1) = (p : Int) + 1 from w32_id (by omega) (by omega)] at h
      have hd := hs
      unfold dgt at hd
      have ew : w32 (w32 (w32 (10 * g 253 15) + r8) - 48) = 10 * g 253 15 + r8 - 48 := by
        rw [w32_id (z := 10 * g 253 15) (by omega) (by omega), w32_id (z := 10 * g 253 15 + r8) (by omega) (by omega), w32_id (by omega) (by omega)]
      rw [ew] at k4
      have f : FM (cup (cup g 253 15 r10) 253 14 ((p : Int) + 1)) g := ((FM.rf g).cup _ (by decide)).cup _ (by decide)
      obtain ⟨q, lf2, V, a1, a2, a4, a3⟩ := ahd_digs n (s := s) (p := p + 1) (m := m) e1 (by rw [cup_at]; omega) (by rw [cup_ne (by decide), cup_ne (by decide)]; exact hm) (by unfold MBY; rw [f.row (by decide)]; exact hB) (by omega) (by omega) h9 (by
        rw [f.mb]
        intro j c1 c2
        by_cases e : j = p
        · rw [e, ← hlt.2]; exact hs
        · exact hl j c1 (by omega)) (by rw [cup_ne (by decide), cup_at]; omega) (by rw [cup_ne (by decide), cup_at]; omega) (by
        rw [cup_ne (by decide), cup_at, f.mb]
        intro c
        have e3 : p + 1 - s = p - s + 1 := by omega
        rw [e3]
        have e4 : DC (mb g) s (p - s + 1) = DC (mb g) s (p - s) * 10 + (mb g (s + (p - s)) - 48) := rfl
        have hbd := DC_4 (b := mb g) (p := s) (k := p - s) (by omega) (fun j c1 c2 => hl j c1 (by omega))
        have hv := hv (by omega)
        rw [e4, show s + (p - s) = p by omega]
        omega) h
      rw [f.mb] at a1 a4
      refine ⟨q, lf2, V, RN.step (by rw [← hlt.2]; exact hs) a1, a2, a4, ?_⟩
      rw [cup_comm (cup g 253 15 r10) _ _ (Or.inr (by decide)), cup_over, cup_over] at a3
      exact zr_m a3
def TKM (b : Nat → Int) (m p : Nat) (g : cg) : Prop :=
  (p = m ∧ g 253 12 = 0) ∨
  (p < m ∧ sml (b p) ∧ ∃ q : Nat, RN sml b m p q ∧ g 253 14 = (q : Int) ∧ g 253 12 = 2) ∨
  (p < m ∧ dgt (b p) ∧ ∃ q : Nat, RN dgt b m p q ∧ g 253 14 = (q : Int) ∧ ((4 < q - p ∧ g 253 12 = 1) ∨ (q - p ≤ 4 ∧ g 253 12 = 3 ∧ g 253 15 = DC b p (q - p)))) ∨
  (p < m ∧ sgn (b p) ∧ g 253 14 = (p : Int) + 1 ∧ g 253 12 = 4 ∧ g 253 15 = b p) ∨
  (p < m ∧ ¬ sml (b p) ∧ ¬ dgt (b p) ∧ ¬ sgn (b p) ∧ g 253 12 = 1)
/-- ahead(): the reference's next token -/
theorem ahd_ok {n : Nat} {lf : dlf} {g : cg} {a m : Nat} (h0 : lf 0 = (4, 253)) (hp : g 253 14 = (a : Int)) (hm : g 253 11 = (m : Int)) (hB : MBY g) (hpm : a ≤ m) (h9 : m ≤ 900) (h : zr sv L n 166 0 lf [] g o) : FM o.1 g ∧ ∃ p, RN blk (mb g) m a p ∧ o.1 253 13 = (p : Int) ∧ TKM (mb g) m p o.1 := by
  obtain ⟨p, lf', hR, e1, h⟩ := ahd_skip n h0 hp hm hB hpm h9 h
  have hpm2 := hR.2.1
  obtain ⟨g1, r2, k1, h⟩ := t_ahd39 h e1
  rw [cup_at] at k1
  have f1 : FM (cup (cup g 253 14 (p : Int)) 253 13 (p : Int)) g := ((FM.rf g).cup _ (by decide)).cup _ (by decide)
  obtain ⟨e2, k1⟩ := byt_ok (p := p) (m := m) k1 rfl rfl (by rw [cup_ne (by decide), cup_ne (by decide)]; exact hm) h9 (by unfold MBY; rw [f1.row (by decide)]; exact hB)
  rw [f1.mb] at k1
  have g14 : g1 253 14 = (p : Int) := by rw [e2, cup_ne (by decide), cup_at]
  have g13 : g1 253 13 = (p : Int) := by rw [e2, cup_at]
  have g11 : g1 253 11 = (m : Int) := by rw [e2, cup_ne (by decide), cup_ne (by decide)]; exact hm
  rw [← e2] at f1
  have hmb : 0 ≤ mb g p := by unfold mb; omega
  have key : FM o.1 g ∧ o.1 253 13 = (p : Int) ∧ TKM (mb g) m p o.1 := by
    rcases h with ⟨hb, g4, r5, k2, h⟩ | ⟨hb, h⟩
    · have hlt : p < m ∧ r2 = mb g p := by
        rcases k1 with ⟨c1, c2⟩ | c
        · exact absurd c2 hb
        · exact c
      obtain ⟨e4, k2⟩ := sml_ok k2 rfl
      have f4 : FM g4 g := by rw [e4]; exact f1.cup _ (by decide)
      have h14 : g4 253 14 = (p : Int) := by rw [e4, cup_ne (by decide)]; exact g14
      have h13 : g4 253 13 = (p : Int) := by rw [e4, cup_ne (by decide)]; exact g13
      have h11 : g4 253 11 = (m : Int) := by rw [e4, cup_ne (by decide)]; exact g11
      have h15 : g4 253 15 = mb g p := by rw [e4, cup_at]; exact hlt.2
      have hB4 : MBY g4 := by unfold MBY; rw [f4.row (by decide)]; exact hB
      rcases h with ⟨hc, g7, r8, k3, h⟩ | ⟨hc, lf2, e5, h⟩
      · have hns : ¬ sml (mb g p) := by
          rcases k2 with ⟨d1, d2⟩ | ⟨d1, d2⟩
          · omega
          · rw [← hlt.2]; exact d1
        obtain ⟨e7, k3⟩ := dgt_ok k3 rfl
        rw [e7] at h
        rcases h with ⟨hd, h⟩ | ⟨hd, lf2, e5, h⟩
        · have hnd : ¬ dgt (mb g p) := by
            rcases k3 with ⟨d1, d2⟩ | ⟨d1, d2⟩
            · omega
            · rw [← hlt.2]; exact d1
          rw [h14, show w32 ((p : Int) + 1) = (p : Int) + 1 from w32_id (by omega) (by omega), hlt.2] at h
          have yes : sgn (mb g p) → o = (cup (cup g4 253 14 ((p : Int) + 1)) 253 12 4, none) → FM o.1 g ∧ o.1 253 13 = (p : Int) ∧ TKM (mb g) m p o.1 := by
            intro hsg ho
            rw [ho]
            refine ⟨(f4.cup _ (by decide)).cup _ (by decide), ?_, Or.inr (Or.inr (Or.inr (Or.inl ⟨hlt.1, hsg, ?_, ?_, ?_⟩)))⟩
            · show cup (cup g4 253 14 ((p : Int) + 1)) 253 12 4 253 13 = _
              rw [cup_ne (by decide), cup_ne (by decide)]; exact h13
            · show cup (cup g4 253 14 ((p : Int) + 1)) 253 12 4 253 14 = _
              rw [cup_ne (by decide), cup_at]
            · show cup (cup g4 253 14 ((p : Int) + 1)) 253 12 4 253 12 = _
              rw [cup_at]
            · show cup (cup g4 253 14 ((p : Int) + 1)) 253 12 4 253 15 = _
              rw [cup_ne (by decide), cup_ne (by decide)]; exact h15
          rcases h with ⟨hx, h⟩ | ⟨hx, ⟨hy, h⟩ | ⟨hy, ⟨hz, h⟩ | ⟨hz, ⟨hw, h⟩ | ⟨hw, h⟩⟩⟩⟩
          · exact yes (Or.inl hx) h
          · exact yes (Or.inr (Or.inl hy)) h
          · exact yes (Or.inr (Or.inr (Or.inr hz))) h
          · rw [h]
            refine ⟨(f4.cup _ (by decide)).cup _ (by decide), ?_, Or.inr (Or.inr (Or.inr (Or.inr ⟨hlt.1, hns, hnd, ?_, ?_⟩)))⟩
            · show cup (cup g4 253 14 ((p : Int) + 1)) 253 12 1 253 13 = _
              rw [cup_ne (by decide), cup_ne (by decide)]; exact h13
            · intro e
              unfold sgn at e
              omega
            · show cup (cup g4 253 14 ((p : Int) + 1)) 253 12 1 253 12 = _
              rw [cup_at]
          · exact yes (Or.inr (Or.inr (Or.inl hw))) h
        · have hdg : dgt (mb g p) := by
            rcases k3 with ⟨d1, d2⟩ | ⟨d1, d2⟩
            · rw [← hlt.2]; exact d1
            · exact absurd d2 hd
          have f5 : FM (cup g4 253 15 0) g := f4.cup _ (by decide)
          have hB5 : MBY (cup g4 253 15 0) := by unfold MBY; rw [f5.row (by decide)]; exact hB
          obtain ⟨q, lf3, V, a1, a2, a4, h⟩ := ahd_digs n (s := p) (p := p) (m := m) e5 (by rw [cup_ne (by decide)]; exact h14) (by rw [cup_ne (by decide)]; exact h11) hB5 (Nat.le_refl _) hpm2 h9 (fun j x y => by omega) (by rw [cup_at]; omega) (by rw [cup_at]; omega) (by intro _; rw [cup_at, Nat.sub_self]; rfl) h
          rw [f5.mb] at a1 a4
          have hq9 : q ≤ 900 := by have := a1.2.1; omega
          have hq1 := a1.1
          have f6 : FM (cup (cup (cup g4 253 15 0) 253 15 V) 253 14 (q : Int)) g := (f5.cup _ (by decide)).cup _ (by decide)
          generalize hG : cup (cup (cup g4 253 15 0) 253 15 V) 253 14 (q : Int) = G at h f6
          have G14 : G 253 14 = (q : Int) := by rw [← hG, cup_at]
          have G13 : G 253 13 = (p : Int) := by rw [← hG, cup_ne (by decide), cup_ne (by decide), cup_ne (by decide)]; exact h13
          have G15 : G 253 15 = V := by rw [← hG, cup_ne (by decide), cup_at]
          rcases t_ahd183 h a2 with ⟨hx, h⟩ | ⟨hx, h⟩
          · rw [G14, G13, w32_id (by omega) (by omega)] at hx
            rw [h]
            refine ⟨f6.cup _ (by decide), ?_, Or.inr (Or.inr (Or.inl ⟨hlt.1, hdg, q, a1, ?_, Or.inr ⟨by omega, ?_, ?_⟩⟩))⟩
            · show cup G 253 12 3 253 13 = _
              rw [cup_ne (by decide)]; exact G13
            · show cup G 253 12 3 253 14 = _
              rw [cup_ne (by decide)]; exact G14
            · show cup G 253 12 3 253 12 = _
              rw [cup_at]
            · show cup G 253 12 3 253 15 = _
              rw [cup_ne (by decide), G15]; exact a4 (by omega)
          · rw [G14, G13, w32_id (by omega) (by omega)] at hx
            rw [h]
            refine ⟨f6.cup _ (by decide), ?_, Or.inr (Or.inr (Or.inl ⟨hlt.1, hdg, q, a1, ?_, Or.inl ⟨by omega, ?_⟩⟩))⟩
            · show cup G 253 12 1 253 13 = _
              rw [cup_ne (by decide)]; exact G13
            · show cup G 253 12 1 253 14 = _
              rw [cup_ne (by decide)]; exact G14
            · show cup G 253 12 1 253 12 = _
              rw [cup_at]
      · have hs : sml (mb g p) := by
          rcases k2 with ⟨d1, d2⟩ | ⟨d1, d2⟩
          · rw [← hlt.2]; exact d1
          · exact absurd d2 hc
        obtain ⟨q, lf3, a1, a2, h⟩ := ahd_word n (p := p) (m := m) e5 h14 h11 hB4 hpm2 h9 h
        rw [f4.mb] at a1
        have f6 : FM (cup g4 253 14 (q : Int)) g := f4.cup _ (by decide)
        have h := t_ahd108 h a2
        rw [h]
        refine ⟨f6.cup _ (by decide), ?_, Or.inr (Or.inl ⟨hlt.1, hs, q, a1, ?_, ?_⟩)⟩
        · show cup (cup g4 253 14 (q : Int)) 253 12 2 253 13 = _
          rw [cup_ne (by decide), cup_ne (by decide)]; exact h13
        · show cup (cup g4 253 14 (q : Int)) 253 12 2 253 14 = _
          rw [cup_ne (by decide), cup_at]
        · show cup (cup g4 253 14 (q : Int)) 253 12 2 253 12 = _
          rw [cup_at]
    · have hpm3 : p = m := by
        rcases k1 with ⟨c1, c2⟩ | ⟨c1, c2⟩
        · omega
        · omega
      rw [h]
      refine ⟨(f1.cup _ (by decide)).cup _ (by decide), ?_, Or.inl ⟨hpm3, ?_⟩⟩
      · show cup (cup g1 253 15 r2) 253 12 0 253 13 = _
        rw [cup_ne (by decide), cup_ne (by decide)]; exact g13
      · show cup (cup g1 253 15 r2) 253 12 0 253 12 = _
        rw [cup_at]
  exact ⟨key.1, p, hR, key.2⟩
end Ahd
