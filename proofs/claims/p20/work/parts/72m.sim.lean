/-! both tokenizers at one place of one text -/
theorem blk_m {x : Int} (h0 : -128 ≤ x) (h1 : x ≤ 127) : blk x ↔ blk (x % 256) := by unfold blk; omega
theorem sml_m {x : Int} (h0 : -128 ≤ x) (h1 : x ≤ 127) : sml x ↔ sml (x % 256) := by unfold sml; omega
theorem dgt_m {x : Int} (h0 : -128 ≤ x) (h1 : x ≤ 127) : dgt x ↔ dgt (x % 256) := by unfold dgt; omega
theorem sgn_m {x : Int} (h0 : -128 ≤ x) (h1 : x ≤ 127) : sgn x ↔ sgn (x % 256) := by unfold sgn; omega
theorem RN.cg {P : Int → Prop} {b b' : Nat → Int} {m p q : Nat} (h : RN P b m p q) (hb : ∀ j, j < m → (P (b j) ↔ P (b' j))) : RN P b' m p q := by
  obtain ⟨a1, a2, a3, a4⟩ := h
  exact ⟨a1, a2, fun j c1 c2 => (hb j (by omega)).mp (a3 j c1 c2), fun c e => a4 c ((hb q c).mpr e)⟩
theorem DC_cg {b b' : Nat → Int} {p : Nat} : ∀ (k : Nat), (∀ i, i < k → b (p + i) = b' (p + i)) → DC b p k = DC b' p k
  | 0, _ => rfl
  | k + 1, h => by
    show DC b p k * 10 + (b (p + k) - 48) = DC b' p k * 10 + (b' (p + k) - 48)
    rw [DC_cg k (fun i hi => h i (by omega)), h k (by omega)]
def TE (c d : cg) (m : Nat) : Prop := m ≤ 900 ∧ c 88 2 = (m : Int) ∧ d 253 11 = (m : Int) ∧ (∀ j : Nat, j < 900 → -128 ≤ c 2 j ∧ c 2 j ≤ 127) ∧ MBY d ∧ (∀ j : Nat, j < m → d 260 j = c 2 j) ∧ (∀ i : Nat, i < 25 → c 89 i = kv i) ∧ c 88 10 = 0 ∧ c 88 11 = -1 ∧ d 253 17 = -1
theorem TE.fr {c d c' d' : cg} {m : Nat} (h : TE c d m) (hc : FT c' c) (hd : FM d' d) : TE c' d' m := by
  obtain ⟨h1, h2, h3, h4, h5, h6, h7, k1, k2, k3⟩ := h
  refine ⟨h1, (hc 88 2 (by omega)).trans h2, (hd 253 11 (by omega)).trans h3, ?_, ?_, ?_, ?_, (hc 88 10 (by omega)).trans k1, (hc 88 11 (by omega)).trans k2, (hd 253 17 (by omega)).trans k3⟩
  · rw [hc.row (k := 2) (by decide)]; exact h4
  · unfold MBY; rw [hd.row (k := 260) (by decide)]; exact h5
  · rw [hc.row (k := 2) (by decide), hd.row (k := 260) (by decide)]; exact h6
  · rw [hc.row (k := 89) (by decide)]; exact h7
theorem TE.mb {c d : cg} {m : Nat} (h : TE c d m) {j : Nat} (hj : j < m) : mb d j = c 2 j % 256 := by
  obtain ⟨h1, h2, h3, h4, h5, h6, h7⟩ := h
  show d 260 j % 256 = c 2 j % 256
  rw [h6 j hj]
/-- the same token on both sides -/
def TQ (c d : cg) (m : Nat) : Prop := ∃ p : Nat, c 88 5 = (p : Int) ∧ d 253 13 = (p : Int) ∧ p ≤ m ∧
  ((c 88 4 = 0 ∧ d 253 12 = 0 ∧ c 88 7 = -1) ∨
   (∃ q : Nat, p < q ∧ q ≤ m ∧ c 88 3 = (q : Int) ∧ d 253 14 = (q : Int) ∧ d 253 12 = 2 ∧ (∀ j, p ≤ j → j < q → sml (mb d j)) ∧
     ((8 < q - p ∧ c 88 4 = 3 ∧ c 88 7 = -1) ∨ (q - p ≤ 8 ∧ c 88 6 = P5 (mb d) p (q - p) ∧ ((∃ i : Nat, i < 25 ∧ kv i = P5 (mb d) p (q - p) ∧ c 88 7 = (i : Int) ∧ c 88 4 = 1) ∨ ((∀ i, i < 25 → kv i ≠ P5 (mb d) p (q - p)) ∧ c 88 7 = -1 ∧ c 88 4 = 2))))) ∨
   (∃ q : Nat, (p < q ∧ q ≤ m) ∧ c 88 3 = (q : Int) ∧ d 253 14 = (q : Int) ∧ c 88 4 = 4 ∧ d 253 12 = 3 ∧ c 88 8 = d 253 15 ∧ c 88 7 = -1) ∨
   (∃ q : Nat, (p < q ∧ q ≤ m) ∧ c 88 3 = (q : Int) ∧ d 253 14 = (q : Int) ∧ c 88 4 = 5 ∧ d 253 12 = 4 ∧ c 88 9 = d 253 15 ∧ c 88 7 = -1) ∨
   ((c 88 4 = 6 ∧ p < m) ∧ d 253 12 = 1 ∧ c 88 7 = -1))
section Sim
variable {sv : Nat → Int32} {L : Nat}
theorem adv_ahd {n n' : Nat} {lf lf' : dlf} {c d c' d' : cg} {a m : Nat} (hE : TE c d m) (ha : c 88 3 = (a : Int)) (ha' : d 253 14 = (a : Int)) (ham : a ≤ m) (h : zr sv L n 37 0 lf [] c (c', none)) (h0 : lf 0 = (4, 88)) (h' : zr sv L n' 166 0 lf' [] d (d', none)) (h0' : lf' 0 = (4, 253)) : FT c' c ∧ FM d' d ∧ TE c' d' m ∧ TQ c' d' m := by
  obtain ⟨h1, h2, h3, h4, h5, h6, h7⟩ := hE
  obtain ⟨f1, p, hR, hp, hT⟩ := adv_ok h0 ha h2 ham h1 h
  obtain ⟨f2, p', hR', hp', hT'⟩ := ahd_ok h0' ha' h3 h5 ham h1 h'
  dsimp only at f1 hp hT f2 hp' hT'
  have hE : TE c d m := ⟨h1, h2, h3, h4, h5, h6, h7⟩
  have hbb : ∀ j, j < m → mb d j = c 2 j % 256 := fun j hj => hE.mb hj
  have cB : ∀ j, j < m → (blk (c 2 j) ↔ blk (mb d j)) := fun j hj => by rw [hbb j hj]; exact blk_m (h4 j (by omega)).1 (h4 j (by omega)).2
  have cS : ∀ j, j < m → (sml (c 2 j) ↔ sml (mb d j)) := fun j hj => by rw [hbb j hj]; exact sml_m (h4 j (by omega)).1 (h4 j (by omega)).2
  have cD : ∀ j, j < m → (dgt (c 2 j) ↔ dgt (mb d j)) := fun j hj => by rw [hbb j hj]; exact dgt_m (h4 j (by omega)).1 (h4 j (by omega)).2
  have cG : ∀ j, j < m → (sgn (c 2 j) ↔ sgn (mb d j)) := fun j hj => by rw [hbb j hj]; exact sgn_m (h4 j (by omega)).1 (h4 j (by omega)).2
  have ep : p = p' := RN.un (hR.cg cB) hR'
  subst ep
  have hpm := hR.2.1
  have sd : ∀ x : Int, sml x → ¬ dgt x ∧ ¬ sgn x := fun x hx => by unfold sml dgt sgn at *; omega
  have dg : ∀ x : Int, dgt x → ¬ sgn x := fun x hx => by unfold dgt sgn at *; omega
  have eqs : ∀ j, j < m → sml (mb d j) → c 2 j = mb d j := fun j hj hx => by
    have := h4 j (by omega)
    rw [hbb j hj] at hx ⊢
    unfold sml at hx
    omega
  have eqd : ∀ j, j < m → dgt (mb d j) → c 2 j = mb d j := fun j hj hx => by
    have := h4 j (by omega)
    rw [hbb j hj] at hx ⊢
    unfold dgt at hx
    omega
  refine ⟨f1, f2, hE.fr f1 f2, p, hp, hp', hpm, ?_⟩
  have f2b : mb d' = mb d := f2.mb
  rw [f2b]
  rcases hT with ⟨a1, a2, a3, a4⟩ | ⟨a1, a2, q, a3, a4, a5⟩ | ⟨a1, a2, q, a3, a4, a5, a6⟩ | ⟨a1, a2, a3, a4, a5, a6⟩ | ⟨a1, a2, a3, a4, a5, a6⟩
  · rcases hT' with ⟨b1, b2⟩ | ⟨b1, b2⟩ | ⟨b1, b2⟩ | ⟨b1, b2⟩ | ⟨b1, b2⟩
    · exact Or.inl ⟨a2, b2, a3⟩
    all_goals omega
  · have hs := (cS p a1).mp a2
    rcases hT' with ⟨b1, b2⟩ | ⟨b1, b2, q', b3, b4, b5⟩ | ⟨b1, b2, b3⟩ | ⟨b1, b2, b3⟩ | ⟨b1, b2, b3⟩
    · omega
    · have eq : q = q' := RN.un (a3.cg cS) b3
      subst eq
      have hpq : p < q := by
        rcases Nat.lt_or_ge p q with e | e
        · exact e
        · have e2 : q = p := by have := a3.1; omega
          rw [e2] at a3
          exact absurd a2 (a3.2.2.2 a1)
      have e5 : ∀ k, k ≤ q - p → P5 (c 2) p k = P5 (mb d) p k := fun k hk => P5_cg k (fun i hi => eqs (p + i) (by have := a3.2.1; omega) (b3.2.2.1 (p + i) (by omega) (by omega)))
      rw [e5 (q - p) (Nat.le_refl _)] at a5
      refine Or.inr (Or.inl ⟨q, hpq, a3.2.1, a4, b4, b5, b3.2.2.1, ?_⟩)
      rcases a5 with z | ⟨z1, z2, ⟨i, z3, z4, z5, z6⟩ | ⟨z3, z4, z5⟩⟩
      · exact Or.inl z
      · exact Or.inr ⟨z1, z2, Or.inl ⟨i, z3, by rw [← h7.1 i z3]; exact z4, z5, z6⟩⟩
      · exact Or.inr ⟨z1, z2, Or.inr ⟨fun i hi => by rw [← h7.1 i hi]; exact z3 i hi, z4, z5⟩⟩
    · exact absurd b2 (sd _ hs).1
    · exact absurd b2 (sd _ hs).2
    · exact absurd hs b2
  · have hs := (cD p a1).mp a2
    rcases hT' with ⟨b1, b2⟩ | ⟨b1, b2, b3⟩ | ⟨b1, b2, q', b3, b4, b5⟩ | ⟨b1, b2, b3⟩ | ⟨b1, b2, b3, b4⟩
    · omega
    · exact absurd hs (sd _ b2).1
    · have eq : q = q' := RN.un (a3.cg cD) b3
      subst eq
      have hpq : p < q := by
        rcases Nat.lt_or_ge p q with e | e
        · exact e
        · have e2 : q = p := by have := a3.1; omega
          rw [e2] at a3
          exact absurd a2 (a3.2.2.2 a1)
      have ed : DC (c 2) p (q - p) = DC (mb d) p (q - p) := DC_cg (q - p) (fun i hi => eqd (p + i) (by have := a3.2.1; omega) (b3.2.2.1 (p + i) (by omega) (by omega)))
      rcases a6 with ⟨z1, z2⟩ | ⟨z1, z2, z3⟩
      · rcases b5 with ⟨y1, y2⟩ | ⟨y1, y2, y3⟩
        · exact Or.inr (Or.inr (Or.inr (Or.inr ⟨⟨z2, a1⟩, y2, a5⟩)))
        · omega
      · rcases b5 with ⟨y1, y2⟩ | ⟨y1, y2, y3⟩
        · omega
        · exact Or.inr (Or.inr (Or.inl ⟨q, ⟨hpq, a3.2.1⟩, a4, b4, z2, y2, by rw [z3, y3, ed], a5⟩))
    · exact absurd b2 (dg _ hs)
    · exact absurd hs b3
  · have hs := (cG p a1).mp a2
    rcases hT' with ⟨b1, b2⟩ | ⟨b1, b2, b3⟩ | ⟨b1, b2, b3⟩ | ⟨b1, b2, b3, b4, b5⟩ | ⟨b1, b2, b3, b4, b5⟩
    · omega
    · exact absurd hs (sd _ b2).2
    · exact absurd hs (dg _ b2)
    · refine Or.inr (Or.inr (Or.inr (Or.inl ⟨p + 1, ⟨by omega, by omega⟩, by rw [a3]; rfl, by rw [b3]; rfl, a4, b4, ?_, a6⟩)))
      rw [a5, b5, hbb p a1]
      have := h4 p (by omega)
      unfold sgn at a2
      omega
    · exact absurd hs b4
  · rcases hT' with ⟨b1, b2⟩ | ⟨b1, b2, b3⟩ | ⟨b1, b2, b3⟩ | ⟨b1, b2, b3⟩ | ⟨b1, b2, b3, b4, b5⟩
    · omega
    · exact absurd ((cS p a1).mpr b2) a2
    · exact absurd ((cD p a1).mpr b2) a3
    · exact absurd ((cG p a1).mpr b2) a4
    · exact Or.inr (Or.inr (Or.inr (Or.inr ⟨⟨a5, a1⟩, b5, a6⟩)))
theorem kw5 : ∀ k, k < 25 → ∀ k', k' < 25 → P5 KC (ks k) (ke k - ks k) = P5 KC (ks k') (ke k' - ks k') → k = k' := by decide +kernel
theorem MW_P5 {d : cg} {p q k : Nat} (hk : k < 25) (h : MW d p q k) : P5 KC (ks k) (ke k - ks k) = P5 (mb d) p (q - p) := by
  rw [h.1]
  exact P5_cg (q - p) (fun i hi => h.2 i hi)
theorem MW_of {d : cg} {p q k : Nat} (hk : k < 25) (hpq : p ≤ q) (hs : ∀ j, p ≤ j → j < q → sml (mb d j)) (h : P5 KC (ks k) (ke k - ks k) = P5 (mb d) p (q - p)) : MW d p q k := by
  obtain ⟨w1, w2, w3, w4, w5⟩ := kw1 k hk
  obtain ⟨e1, e2⟩ := P5_inj (ke k - ks k) (q - p) (fun j a c => kw2 k hk j (by omega) a (by omega)) (fun j a c => hs j a (by omega)) h
  exact ⟨e1, fun i hi => e2 i (by omega)⟩
/-- the key, on both sides -/
theorem tq_key {n : Nat} {lf : dlf} {c d d1 : cg} {m : Nat} {r : Int} (hE : TE c d m) (hT : TQ c d m) (h : zr sv L n 172 0 lf [] d (d1, some (0, r))) (h0 : lf 0 = (4, 253)) (h1 : lf 1 = (6, 3)) : d1 = d ∧ ((c 88 7 = -1 ∧ r = -1) ∨ ∃ i : Nat, i < 25 ∧ c 88 7 = (i : Int) ∧ r = (km i : Int)) := by
  obtain ⟨p, hp, hp', hpm, hT⟩ := hT
  have hm9 := hE.1
  have hm := hE.2.2.1
  have hB := hE.2.2.2.2.1
  have no : ∀ q : Nat, d 253 12 ≠ 2 → c 88 7 = -1 → d1 = d ∧ ((c 88 7 = -1 ∧ r = -1) ∨ ∃ i : Nat, i < 25 ∧ c 88 7 = (i : Int) ∧ r = (km i : Int)) := by
    intro q hn hk
    obtain ⟨e1, e2⟩ := inw_ok (p := p) (q := q) (m := m) h h0 h1 hp' (fun e => absurd e hn) hm hm9 hB
    rcases e2 with ⟨z1, z2⟩ | ⟨z1, z2⟩
    · exact ⟨e1, Or.inl ⟨hk, z2⟩⟩
    · exact absurd z1 hn
  rcases hT with ⟨a1, a2, a3⟩ | ⟨q, a1, a2, a3, a4, a5, a6, a7⟩ | ⟨q, a1, a2, a3, a4, a5, a6, a7⟩ | ⟨q, a1, a2, a3, a4, a5, a6, a7⟩ | ⟨a1, a2, a3⟩
  · exact no 0 (by omega) a3
  · obtain ⟨e1, e2⟩ := inw_ok (p := p) (q := q) (m := m) h h0 h1 hp' (fun _ => ⟨a4, by omega, a2⟩) hm hm9 hB
    refine ⟨e1, ?_⟩
    rcases e2 with ⟨z1, z2⟩ | ⟨z1, z2⟩
    · exact absurd a5 z1
    · rcases a7 with ⟨y1, y2, y3⟩ | ⟨y1, y2, ⟨i, y3, y4, y5, y6⟩ | ⟨y3, y4, y5⟩⟩
      · rcases z2 with ⟨k, k1, k2, k3⟩ | ⟨k1, k2⟩
        · have := (kw1 k k1).2.1
          have := k2.1
          omega
        · exact Or.inl ⟨y3, k2⟩
      · have hk := kw3 i y3
        have hW := MW_of (d := d) (p := p) (q := q) hk.1 (by omega) a6 (by rw [← hk.2]; exact y4)
        rcases z2 with ⟨k, k1, k2, k3⟩ | ⟨k1, k2⟩
        · have e := kw5 k k1 (km i) hk.1 (by rw [MW_P5 k1 k2, MW_P5 hk.1 hW])
          exact Or.inr ⟨i, y3, y5, by rw [k3, e]⟩
        · exact absurd hW (k1 (km i) hk.1)
      · rcases z2 with ⟨k, k1, k2, k3⟩ | ⟨k1, k2⟩
        · obtain ⟨i, i1, i2⟩ := kw4 k k1
          have hk := kw3 i i1
          exact absurd (by rw [hk.2, i2]; exact MW_P5 k1 k2) (y3 i i1)
        · exact Or.inl ⟨y4, k2⟩
  · exact no 0 (by omega) a7
  · exact no 0 (by omega) a7
  · exact no 0 (by omega) a3
/-- a name, on both sides -/
theorem tq_name {n : Nat} {lf : dlf} {c d d1 : cg} {m : Nat} {r : Int} (hE : TE c d m) (hT : TQ c d m) (h : zr sv L n 181 0 lf [] d (d1, some (0, r))) (h0 : lf 0 = (4, 253)) (h1 : lf 1 = (6, 3)) : d1 = d ∧ ((c 88 4 = 2 ∧ r = 1) ∨ (c 88 4 ≠ 2 ∧ r = 0)) := by
  have hT0 := hT
  obtain ⟨p, hp, hp', hpm, hT⟩ := hT
  have hm9 := hE.1
  rcases t_isName h h0 h1 with ⟨hc, h⟩ | ⟨hc, ⟨hd, h⟩ | ⟨hd, g3, r4, k1, h⟩⟩
  · obtain ⟨e1, e2⟩ := oI h
    refine ⟨e1, Or.inr ⟨fun e => ?_, e2⟩⟩
    rcases hT with ⟨a1, a2, a3⟩ | ⟨q, a1, a2, a3, a4, a5, a6, a7⟩ | ⟨q, a1, a2, a3, a4, a5, a6, a7⟩ | ⟨q, a1, a2, a3, a4, a5, a6, a7⟩ | ⟨a1, a2, a3⟩ <;> omega
  · obtain ⟨e1, e2⟩ := oI h
    refine ⟨e1, Or.inr ⟨fun e => ?_, e2⟩⟩
    rcases hT with ⟨a1, a2, a3⟩ | ⟨q, a1, a2, a3, a4, a5, a6, a7⟩ | ⟨q, a1, a2, a3, a4, a5, a6, a7⟩ | ⟨q, a1, a2, a3, a4, a5, a6, a7⟩ | ⟨a1, a2, a3⟩
    · omega
    · rw [a4, hp', w32_id (by omega) (by omega)] at hd
      rcases a7 with ⟨y1, y2, y3⟩ | ⟨y1, y2, y3⟩ <;> omega
    all_goals omega
  · obtain ⟨e1, e2⟩ := tq_key hE hT0 k1 rfl rfl
    have key : (r4 = -1 ∧ c 88 4 = 2) ∨ (r4 ≠ -1 ∧ c 88 4 ≠ 2) := by
      rcases hT with ⟨a1, a2, a3⟩ | ⟨q, a1, a2, a3, a4, a5, a6, a7⟩ | ⟨q, a1, a2, a3, a4, a5, a6, a7⟩ | ⟨q, a1, a2, a3, a4, a5, a6, a7⟩ | ⟨a1, a2, a3⟩
      · omega
      · rw [a4, hp', w32_id (by omega) (by omega)] at hd
        rcases a7 with ⟨y1, y2, y3⟩ | ⟨y1, y2, ⟨i, y3, y4, y5, y6⟩ | ⟨y3, y4, y5⟩⟩
        · omega
        · rcases e2 with ⟨z1, z2⟩ | ⟨i', z1, z2, z3⟩ <;> omega
        · rcases e2 with ⟨z1, z2⟩ | ⟨i', z1, z2, z3⟩ <;> omega
      all_goals omega
    rcases h with ⟨hx, h⟩ | ⟨hx, h⟩
    · obtain ⟨b1, b2⟩ := oI h
      refine ⟨by rw [b1, e1], Or.inr ⟨?_, b2⟩⟩
      rcases key with ⟨z1, z2⟩ | ⟨z1, z2⟩
      · exact absurd z1 hx
      · exact z2
    · obtain ⟨b1, b2⟩ := oI h
      refine ⟨by rw [b1, e1], Or.inl ⟨?_, b2⟩⟩
      rcases key with ⟨z1, z2⟩ | ⟨z1, z2⟩
      · exact z2
      · exact absurd hx z1
/-- a name's two numbers -/
def NR (x x' : Int) : Prop := ∃ (b : Nat → Int) (p k : Nat), k ≤ 8 ∧ (∀ j, p ≤ j → j < p + k → sml (b j)) ∧ x = P5 b p k ∧ x' = P8 b p k
theorem NR_eq {x x' y y' : Int} (h : NR x x') (h' : NR y y') : x = y ↔ x' = y' := by
  obtain ⟨b, p, k, k8, hs, e1, e2⟩ := h
  obtain ⟨b', p', k', k8', hs', e1', e2'⟩ := h'
  constructor
  · intro e
    rw [e1, e1'] at e
    obtain ⟨i1, i2⟩ := P5_inj k k' hs hs' e
    subst i1
    rw [e2, e2']
    exact P8_cg k i2
  · intro e
    rw [e2, e2'] at e
    obtain ⟨i1, i2⟩ := P8_inj k k' hs hs' e
    subst i1
    rw [e1, e1']
    exact P5_cg k i2
theorem tq_nm {n : Nat} {lf : dlf} {c d d1 : cg} {m : Nat} {r : Int} (hE : TE c d m) (hT : TQ c d m) (hk : c 88 4 = 2) (h : zr sv L n 183 0 lf [] d (d1, some (2, r))) (h0 : lf 0 = (4, 253)) : d1 = d ∧ NR (c 88 6) r ∧ ∃ p q : Nat, d 253 13 = (p : Int) ∧ d 253 14 = (q : Int) ∧ r = P8 (mb d) p (q - p) := by
  obtain ⟨p, hp, hp', hpm, hT⟩ := hT
  rcases hT with ⟨a1, a2, a3⟩ | ⟨q, a1, a2, a3, a4, a5, a6, a7⟩ | ⟨q, a1, a2, a3, a4, a5, a6, a7⟩ | ⟨q, a1, a2, a3, a4, a5, a6, a7⟩ | ⟨a1, a2, a3⟩
  · omega
  · rcases a7 with ⟨y1, y2, y3⟩ | ⟨y1, y2, y3⟩
    · omega
    · obtain ⟨e1, e2⟩ := nam_ok (p := p) (q := q) (m := m) h h0 hp' a4 (by omega) a2 hE.2.2.1 hE.1 hE.2.2.2.2.1 y1 a6
      exact ⟨e1, ⟨mb d, p, q - p, y1, fun j z1 z2 => a6 j z1 (by omega), y2, e2⟩, p, q, hp', a4, e2⟩
  all_goals omega
end Sim
