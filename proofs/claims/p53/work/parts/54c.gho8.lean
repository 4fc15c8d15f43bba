/-! What loops over a row give: the functions -/
theorem fgb_rg (a : Nat → Int) (b : Int) : ∀ n : Nat, -1 ≤ fgb a b n ∧ fgb a b n < (n : Int)
  | 0 => ⟨Int.le_refl _, by show (-1 : Int) < ((0 : Nat) : Int); omega⟩
  | n + 1 => by
    have ih := fgb_rg a b n
    unfold fgb
    split
    · constructor <;> omega
    · constructor <;> omega
theorem fgb_cg {a a' : Nat → Int} {b : Int} : ∀ {n : Nat}, (∀ j, j < n → a j = a' j) → fgb a b n = fgb a' b n
  | 0, _ => rfl
  | n + 1, h => by
    have ih := fgb_cg (b := b) (fun j hj => h j (by omega) : ∀ j, j < n → a j = a' j)
    have r := fgb_rg a' b n
    unfold fgb
    rw [ih, h n (by omega)]
    by_cases hn : fgb a' b n < 0
    · simp only [hn, true_or]
    · rw [h (fgb a' b n).toNat (by omega)]
theorem sec_cg {a a' : Nat → Int} {w : Int} : ∀ {n : Nat}, (∀ j, j < n → a j = a' j) → sec a w n = sec a' w n
  | 0, _ => rfl
  | n + 1, h => by
    have ih := sec_cg (w := w) (fun j hj => h j (by omega) : ∀ j, j < n → a j = a' j)
    unfold sec
    rw [ih, h n (by omega)]
theorem tie_cg {a a' : Nat → Int} {w : Int} : ∀ {n : Nat}, (∀ j, j < n → a j = a' j) → tie a w n = tie a' w n
  | 0, _ => rfl
  | n + 1, h => by
    have ih := tie_cg (w := w) (fun j hj => h j (by omega) : ∀ j, j < n → a j = a' j)
    unfold tie
    rw [ih, h n (by omega)]
    by_cases hw : w < (n : Int)
    · rw [h w.toNat (by omega)]
    · rw [if_neg (fun q => hw q.1), if_neg (fun q => hw q.1)]
theorem wif_cg {a a' : Nat → Int} : ∀ {n : Nat}, (∀ j, j < n → a j = a' j) → wif a n = wif a' n
  | 0, _ => rfl
  | n + 1, h => by
    have ih := wif_cg (fun j hj => h j (by omega) : ∀ j, j < n → a j = a' j)
    unfold wif
    rw [ih, h n (by omega)]
theorem FK_cg {k : Nat} {a a' : Nat → Int} {w : Int} {n : Nat} (h : ∀ j, j < n → a j = a' j) : FK k a w n = FK k a' w n := by
  unfold FK
  split
  · rw [fgb_cg h]
  · rw [fgb_cg h, sec_cg h]
  · exact tie_cg h
  · exact wif_cg h
  · exact sec_cg h
  · rfl
theorem wif_1 {a : Nat → Int} : ∀ {n : Nat}, wif a n = 1 → ∀ j, j < n → 0 ≤ a j ∧ a j ≤ 999999
  | 0, _, j, hj => absurd hj (by omega)
  | n + 1, h, j, hj => by
    unfold wif at h
    by_cases hc : 0 ≤ a n ∧ a n ≤ 999999
    · rw [if_pos hc] at h
      by_cases e : j = n
      · rw [e]; exact hc
      · exact wif_1 h j (by omega)
    · rw [if_neg hc] at h
      omega
theorem wif_0 {a : Nat → Int} {p : Nat} (hp : a p < 0 ∨ 999999 < a p) : ∀ {n : Nat}, p < n → wif a n = 0
  | 0, h => absurd h (by omega)
  | n + 1, h => by
    unfold wif
    by_cases e : p = n
    · rw [← e, if_neg (by omega)]
    · rw [wif_0 hp (by omega : p < n)]
      split <;> rfl
theorem tie_0 {a : Nat → Int} {w : Int} : ∀ {n : Nat}, (n : Int) ≤ w + 1 → tie a w n = 0
  | 0, _ => rfl
  | n + 1, h => by
    unfold tie
    rw [if_neg (fun q => by have := q.1; omega)]
    exact tie_0 (by omega)
theorem tie_1 {a : Nat → Int} {w : Int} {p : Nat} (hp : a p = a w.toNat) (hw : w < (p : Int)) : ∀ {n : Nat}, p < n → tie a w n = 1
  | 0, h => absurd h (by omega)
  | n + 1, h => by
    unfold tie
    by_cases e : p = n
    · rw [if_pos ⟨by omega, by rw [← e]; exact hp⟩]
    · rw [tie_1 hp hw (by omega : p < n)]
      split <;> rfl
theorem tie_ex {a : Nat → Int} {w : Int} : ∀ {n : Nat}, tie a w n = 1 → ∃ j, j < n ∧ w < (j : Int) ∧ a j = a w.toNat
  | 0, h => by cases h
  | n + 1, h => by
    unfold tie at h
    by_cases hc : w < (n : Int) ∧ a n = a w.toNat
    · exact ⟨n, by omega, hc.1, hc.2⟩
    · rw [if_neg hc] at h
      obtain ⟨j, h1, h2⟩ := tie_ex h
      exact ⟨j, by omega, h2⟩
theorem tie_no {a : Nat → Int} {w : Int} : ∀ {n : Nat}, tie a w n = 0 → ∀ j, j < n → w < (j : Int) → a j ≠ a w.toNat
  | 0, _, j, hj, _ => absurd hj (by omega)
  | n + 1, h, j, hj, hw => by
    unfold tie at h
    by_cases hc : w < (n : Int) ∧ a n = a w.toNat
    · rw [if_pos hc] at h; omega
    · rw [if_neg hc] at h
      by_cases e : j = n
      · rw [e] at hw ⊢
        exact fun q => hc ⟨hw, q⟩
      · exact tie_no h j (by omega) hw
/-- the first greatest -/
theorem fgb_top {a : Nat → Int} : ∀ {n : Nat}, 0 < n → 0 ≤ fgb a (-1) n ∧ (∀ j, j < n → a j ≤ a (fgb a (-1) n).toNat) ∧ ∀ j : Nat, (j : Int) < fgb a (-1) n → a j < a (fgb a (-1) n).toNat
  | 0, h => absurd h (by omega)
  | n + 1, _ => by
    unfold fgb
    by_cases h0 : n = 0
    · subst h0
      have e : fgb a (-1) 0 = -1 := rfl
      rw [if_pos ⟨by omega, Or.inl (by rw [e]; omega)⟩]
      refine ⟨by omega, fun j hj => ?_, fun j hj => by omega⟩
      have : j = 0 := by omega
      rw [this]
      exact Int.le_refl _
    · obtain ⟨i1, i2, i3⟩ := fgb_top (a := a) (n := n) (by omega)
      have r := fgb_rg a (-1) n
      by_cases hc : (n : Int) ≠ -1 ∧ (fgb a (-1) n < 0 ∨ a (fgb a (-1) n).toNat < a n)
      · rw [if_pos hc]
        have hlt : a (fgb a (-1) n).toNat < a n := by
          rcases hc.2 with q | q
          · omega
          · exact q
        have en : ((n : Int)).toNat = n := by omega
        rw [en]
        refine ⟨by omega, fun j hj => ?_, fun j hj => ?_⟩
        · by_cases e : j = n
          · rw [e]; exact Int.le_refl _
          · have := i2 j (by omega); omega
        · have := i2 j (by omega); omega
      · rw [if_neg hc]
        have hge : a n ≤ a (fgb a (-1) n).toNat := by
          have : ¬ a (fgb a (-1) n).toNat < a n := fun q => hc ⟨by omega, Or.inr q⟩
          omega
        refine ⟨i1, fun j hj => ?_, i3⟩
        by_cases e : j = n
        · rw [e]; exact hge
        · exact i2 j (by omega)
theorem sec_ge {a : Nat → Int} {w : Int} : ∀ {n : Nat}, 0 ≤ sec a w n ∧ ∀ j, j < n → (j : Int) ≠ w → a j ≤ sec a w n
  | 0 => ⟨Int.le_refl _, fun j hj => absurd hj (by omega)⟩
  | n + 1 => by
    obtain ⟨i1, i2⟩ := sec_ge (a := a) (w := w) (n := n)
    unfold sec
    by_cases hc : (n : Int) ≠ w ∧ sec a w n < a n
    · rw [if_pos hc]
      refine ⟨by omega, fun j hj hw => ?_⟩
      by_cases e : j = n
      · rw [e]; exact Int.le_refl _
      · have := i2 j (by omega) hw; omega
    · rw [if_neg hc]
      refine ⟨i1, fun j hj hw => ?_⟩
      by_cases e : j = n
      · rw [e] at hw ⊢
        have : ¬ sec a w n < a n := fun q => hc ⟨hw, q⟩
        omega
      · exact i2 j (by omega) hw
theorem sec_ex {a : Nat → Int} {w : Int} : ∀ {n : Nat}, sec a w n = 0 ∨ ∃ j, j < n ∧ (j : Int) ≠ w ∧ sec a w n = a j
  | 0 => Or.inl rfl
  | n + 1 => by
    unfold sec
    by_cases hc : (n : Int) ≠ w ∧ sec a w n < a n
    · rw [if_pos hc]
      exact Or.inr ⟨n, by omega, hc.1, rfl⟩
    · rw [if_neg hc]
      rcases sec_ex (a := a) (w := w) (n := n) with h | ⟨j, h1, h2⟩
      · exact Or.inl h
      · exact Or.inr ⟨j, by omega, h2⟩
/-- the greatest of the others, by the first of the greatest of them -/
theorem sec_fgb {a : Nat → Int} {w : Int} : ∀ {n : Nat}, (∀ j, j < n → 0 ≤ a j) → (fgb a w n < 0 → sec a w n = 0) ∧ (0 ≤ fgb a w n → sec a w n = a (fgb a w n).toNat)
  | 0, _ => ⟨fun _ => rfl, fun h => by have e : fgb a w 0 = -1 := rfl; omega⟩
  | n + 1, h => by
    obtain ⟨i1, i2⟩ := sec_fgb (w := w) (fun j hj => h j (by omega) : ∀ j, j < n → 0 ≤ a j)
    have hn := h n (by omega)
    unfold fgb sec
    by_cases hw : (n : Int) = w
    · rw [if_neg (fun q => q.1 hw), if_neg (fun q => q.1 hw)]
      exact ⟨i1, i2⟩
    · by_cases hl : fgb a w n < 0
      · rw [if_pos ⟨hw, Or.inl hl⟩, i1 hl]
        have en : ((n : Int)).toNat = n := by omega
        rw [en]
        refine ⟨fun q => by omega, fun _ => ?_⟩
        by_cases hc : 0 < a n
        · rw [if_pos ⟨hw, hc⟩]
        · rw [if_neg (fun q => hc q.2)]
          omega
      · have e := i2 (by omega)
        by_cases hc : a (fgb a w n).toNat < a n
        · rw [if_pos ⟨hw, Or.inr hc⟩, if_pos ⟨hw, by rw [e]; exact hc⟩]
          have en : ((n : Int)).toNat = n := by omega
          rw [en]
          exact ⟨fun q => by omega, fun _ => rfl⟩
        · rw [if_neg (fun q => q.2.elim hl hc), if_neg (fun q => hc (by have := q.2; rw [e] at this; exact this))]
          exact ⟨fun q => absurd q hl, fun _ => e⟩
/-- another is as great -/
theorem sec_tie1 {a : Nat → Int} {n : Nat} (hw : ∀ j, j < n → 0 ≤ a j) (h : tie a (fgb a (-1) n) n = 1) : sec a (fgb a (-1) n) n = a (fgb a (-1) n).toNat := by
  obtain ⟨j, h1, h2, h3⟩ := tie_ex h
  obtain ⟨t1, t2, t3⟩ := fgb_top (a := a) (n := n) (by omega)
  have r := fgb_rg a (-1) n
  have g1 := (sec_ge (a := a) (w := fgb a (-1) n) (n := n)).2 j h1 (by omega)
  rcases sec_ex (a := a) (w := fgb a (-1) n) (n := n) with e | ⟨k, k1, k2, k3⟩
  · have := hw (fgb a (-1) n).toNat (by omega)
    omega
  · have := t2 k k1
    omega
theorem sec_tie0 {a : Nat → Int} {n : Nat} (h2 : 2 ≤ n) (hw : ∀ j, j < n → 0 ≤ a j) (h : tie a (fgb a (-1) n) n = 0) : sec a (fgb a (-1) n) n + 1 ≤ a (fgb a (-1) n).toNat := by
  obtain ⟨t1, t2, t3⟩ := fgb_top (a := a) (n := n) (by omega)
  have r := fgb_rg a (-1) n
  have key : ∀ j, j < n → (j : Int) ≠ fgb a (-1) n → a j + 1 ≤ a (fgb a (-1) n).toNat := by
    intro j hj hne
    by_cases hl : (j : Int) < fgb a (-1) n
    · have := t3 j hl; omega
    · have q1 := tie_no h j hj (by omega)
      have := t2 j hj
      omega
  rcases sec_ex (a := a) (w := fgb a (-1) n) (n := n) with e | ⟨k, k1, k2, k3⟩
  · rw [e]
    by_cases h0 : fgb a (-1) n = 0
    · have := key 1 (by omega) (by omega)
      have := hw 1 (by omega)
      omega
    · have := key 0 (by omega) (by omega)
      have := hw 0 (by omega)
      omega
  · rw [k3]
    exact key k k1 k2
/-! Ghosts: what loops over a row give -/
section Gho8
variable {h0 : xheap} {tyt : Lean.RArray (Nat × Nat)} {typs : Lean.RArray (Nat × aty)} {fam : Lean.RArray (Nat × afam)} {tAT AT : Nat} {sv : Nat → Int32} {el : Nat → Nat} {π : Int}
def gk8 (k : Nat) : Bool := cond (Nat.ble 8 k) (Nat.ble k 13) false
theorem gk8_sem {k a b : Nat} {e : ae} {ρ : Nat → Int} {g : cg} (hk : gk8 k = true) : aGSd sv el (gGH fam AT π) (k, a, b, e) ρ g ↔ FKV k g a (ev ρ e) := by
  obtain ⟨h1, h2⟩ := xcnb hk
  have h1 : 8 ≤ k := xleb h1
  have h2 : k ≤ 13 := xleb h2
  rcases (by omega : k = 8 ∨ k = 9 ∨ k = 10 ∨ k = 11 ∨ k = 12 ∨ k = 13) with e | e | e | e | e | e <;> subst e <;> exact Iff.rfl
theorem gk8_keep {x : gho} {ρ : Nat → Int} {g g' : cg} (hk : gk8 x.1 = true) (he : ∀ j, g' x.2.1 j = g x.2.1 j) (h : aGSd sv el (gGH fam AT π) x ρ g) : aGSd sv el (gGH fam AT π) x ρ g' := by
  obtain ⟨xk, xa, xb, xe⟩ := x
  have h := (gk8_sem hk).mp h
  refine (gk8_sem hk).mpr ?_
  unfold FKV at h ⊢
  have e : sq g' xa (vq3 (ev ρ xe)) = sq g xa (vq3 (ev ρ xe)) := funext (fun j => he _)
  rw [e]
  exact h
noncomputable def ghs8 (tyt : Lean.RArray (Nat × Nat)) (env : aenv) (t : Nat) (c : ae) (x : gho) : Bool := cond (gk8 x.1) (match xg tyt x.2.1 with
  | none => false
  | some ta => cond (Nat.beq t ta) (ene env c ((x.2.1 : Int), [])) true) false
noncomputable def wHS (fam : Lean.RArray (Nat × afam)) (tyt : Lean.RArray (Nat × Nat)) (fids : List Nat) (tAT AT : Nat) (env : aenv) (fx : List ae) (mem : List am) (gh : List gho) (t : Nat) (c i : ae) (v : av) : List gho :=
  zHS fam tyt fids tAT AT env fx mem gh t c i v ++ gh.filter (ghs8 tyt env t c)
theorem wHS_ok (hT : gfT tyt fam) (hN : gfN fam) (hAT : ∀ k, xg tyt k = some tAT → k = AT) (hAT2 : xg tyt AT = some tAT) {fids : List Nat} : aHS h0 tyt (aGSd sv el (gGH fam AT π)) (wHS fam tyt fids tAT AT) := by
  intro env fx mem gh g ρ t c i v k j hC hc hi ht hcat x hx
  rcases List.mem_append.mp hx with hx | hx
  · exact zHS_ok hT hN hAT hAT2 env fx mem gh g ρ t c i v k j hC hc hi ht hcat x hx
  · obtain ⟨h1, h2⟩ := List.mem_filter.mp hx
    obtain ⟨h3, h4⟩ := xcnb h2
    refine gk8_keep h3 (fun j' => cup_ne (fun z => ?_)) (hC.2.2.2 x h1)
    cases ha : xg tyt x.2.1 with
    | none => rw [ha] at h4; cases h4
    | some ta =>
      rw [ha] at h4
      dsimp only at h4
      cases hb : Nat.beq t ta with
      | false => exact gkne (tyt := tyt) ht ha hb z.1
      | true =>
        rw [hb] at h4
        have n1 := ene_ok hC.1 h4
        rw [hc, evc] at n1
        exact n1 (by have := z.1; omega)
noncomputable def wHA (fam : Lean.RArray (Nat × afam)) (tyt : Lean.RArray (Nat × Nat)) (AT : Nat) (env : aenv) (fx : List ae) (mem : List am) (gh : List gho) (ta : Nat) (ca : ae) (tb : Nat) (cb sp dp m : ae) : List gho :=
  zHA fam tyt AT env fx mem gh ta ca tb cb sp dp m ++ gh.filter (fun x => cond (gk8 x.1) (ene env cb ((x.2.1 : Int), [])) false)
theorem wHA_ok : aHA h0 tyt (aGSd sv el (gGH fam AT π)) (wHA fam tyt AT) := by
  intro env fx mem gh g ρ ta ca tb cb sp dp m ka kb s d n hC hca hcb hta htb hsp hdp hm x hx
  rcases List.mem_append.mp hx with hx | hx
  · exact zHA_ok env fx mem gh g ρ ta ca tb cb sp dp m ka kb s d n hC hca hcb hta htb hsp hdp hm x hx
  · obtain ⟨h1, h2⟩ := List.mem_filter.mp hx
    obtain ⟨h3, h4⟩ := xcnb h2
    have n1 := ene_ok hC.1 h4
    rw [hcb, evc] at n1
    refine gk8_keep h3 (fun j' => ?_) (hC.2.2.2 x h1)
    unfold ccp
    rw [if_neg (fun z => n1 (by have := z.1; omega))]
noncomputable def wHW (fam : Lean.RArray (Nat × afam)) (tyt : Lean.RArray (Nat × Nat)) (tAT AT : Nat) (env : aenv) (fx : List ae) (mem : List am) (gh : List gho) (wr : List awr) : List gho := zHW fam tyt tAT AT env fx mem gh wr ++ gh.filter (fun x => cond (gk8 x.1) (match xg tyt x.2.1 with
  | none => false
  | some ta => wr.all (fun w => gwt w ta x.2.1)) false)
theorem wHW_ok (hT : gfT tyt fam) (hAT2 : xg tyt AT = some tAT) : aHW h0 tyt (aGSd sv el (gGH fam AT π)) (wHW fam tyt tAT AT) := by
  intro env fx mem gh wr g g' ρ hC hg x hx
  rcases List.mem_append.mp hx with hx | hx
  · exact zHW_ok hT hAT2 env fx mem gh wr g g' ρ hC hg x hx
  · obtain ⟨h1, h2⟩ := List.mem_filter.mp hx
    obtain ⟨h3, h4⟩ := xcnb h2
    cases ha : xg tyt x.2.1 with
    | none => rw [ha] at h4; cases h4
    | some ta =>
      rw [ha] at h4
      exact gk8_keep h3 (fun j' => hg _ _ (gwt_ok ha h4 j')) (hC.2.2.2 x h1)
/-- what a ghost of the list says -/
def gfR (ρ : Nat → Int) (g : cg) (y : agf) : Prop := FK y.1 (sq g y.2.1 (ev ρ y.2.2.2.2.2)) (ev ρ y.2.2.2.2.1) (ev ρ y.2.2.2.1).toNat = ev ρ y.2.2.1 ∧ 0 ≤ ev ρ y.2.2.1 ∧ 0 ≤ ev ρ y.2.2.2.1 ∧ 0 ≤ ev ρ y.2.2.2.2.1 ∧ 0 ≤ ev ρ y.2.2.2.2.2
theorem gde4_sem {env : aenv} {fx : List ae} {ρ : Nat → Int} (hE : envR env ρ) (hX : fxR fx ρ) {k c : Nat} {e : ae} {D : ad4} {g : cg} (hd : gde4 env fx e = some D) : FKV k g c (ev ρ e) ↔ gfR ρ g (k, c, D) := by
  obtain ⟨⟨q0, q1, q2, q3⟩, p0, p1, p2, p3⟩ := gde4_ok hE hX hd
  unfold FKV gfR
  rw [q0, q1, q2, q3]
  exact ⟨fun h => ⟨h, p0, p1, p2, p3⟩, fun h => h.1⟩
theorem gfl_ok {env : aenv} {fx : List ae} {ρ : Nat → Int} (hE : envR env ρ) (hX : fxR fx ρ) {g : cg} : ∀ (gh : List gho), ghR (aGSd sv el (gGH fam AT π)) gh ρ g → ∀ y ∈ gfl env fx gh, gfR ρ g y
  | [], _, y, hy => absurd hy List.not_mem_nil
  | x :: l, hR, y, hy => by
    have hl : ghR (aGSd sv el (gGH fam AT π)) l ρ g := fun z hz => hR z (List.mem_cons_of_mem _ hz)
    have hG := hR x List.mem_cons_self
    obtain ⟨xk, xa, xb, xe⟩ := x
    unfold gfl at hy
    dsimp only at hy
    cases h1 : cond (Nat.ble 8 xk) (Nat.ble xk 13) false with
    | false => rw [h1] at hy; exact gfl_ok hE hX l hl y hy
    | true =>
      rw [h1] at hy
      simp only [cond_true] at hy
      have hG := (gk8_sem h1).mp hG
      cases hd : gde4 env fx xe with
      | none => rw [hd] at hy; exact gfl_ok hE hX l hl y hy
      | some D =>
        rw [hd] at hy
        dsimp only at hy
        rcases List.mem_cons.mp hy with e | hy
        · rw [e]
          exact (gde4_sem hE hX hd).mp hG
        · exact gfl_ok hE hX l hl y hy
theorem gvw_ok {GS : gho → (Nat → Int) → cg → Prop} {env : aenv} {fx : List ae} {mem : List am} {gh : List gho} {g : cg} {ρ : Nat → Int} (hC : coR h0 tyt GS env fx mem gh g ρ) {c : Nat} {i e : ae} (h : gvw tyt env mem c i = some e) : ∃ j : Nat, ev ρ i = (j : Int) ∧ g c j = ev ρ e := by
  unfold gvw at h
  cases ht : xg tyt c with
  | none => rw [ht] at h; cases h
  | some t => rw [ht] at h; exact gnuw_ok hC h
/-- at o + p lies e -/
theorem gvw_at {GS : gho → (Nat → Int) → cg → Prop} {env : aenv} {fx : List ae} {mem : List am} {gh : List gho} {g : cg} {ρ : Nat → Int} (hC : coR h0 tyt GS env fx mem gh g ρ) {c p : Nat} {i e : ae} {o : Int} (ho : 0 ≤ o) (hi : ev ρ i = o + (p : Int)) (h : gvw tyt env mem c i = some e) : sq g c o p = ev ρ e := by
  obtain ⟨j, h1, h2⟩ := gvw_ok hC h
  unfold sq
  rw [← h2]
  congr 1
  omega
/-- of kind k on cell c, n places from o, the other w -/
noncomputable def gsy (env : aenv) (fx : List ae) (k c : Nat) (n w o : ae) (y : agf) : Bool := cond (cond (Nat.beq y.1 k) (Nat.beq y.2.1 c) false) (cond (efq env fx y.2.2.2.1 n) (cond (efq env fx y.2.2.2.2.1 w) (efq env fx y.2.2.2.2.2 o) false) false) false
theorem gsy_ok {env : aenv} {fx : List ae} {ρ : Nat → Int} (hE : envR env ρ) (hX : fxR fx ρ) {k c : Nat} {n w o : ae} {y : agf} {g : cg} (hy : gfR ρ g y) (h : gsy env fx k c n w o y = true) : FK k (sq g c (ev ρ o)) (ev ρ w) (ev ρ n).toNat = ev ρ y.2.2.1 ∧ 0 ≤ ev ρ y.2.2.1 ∧ 0 ≤ ev ρ n ∧ 0 ≤ ev ρ w ∧ 0 ≤ ev ρ o := by
  obtain ⟨h1, h⟩ := xcnb h
  obtain ⟨k1, k2⟩ := xcnb h1
  obtain ⟨h2, h⟩ := xcnb h
  obtain ⟨h3, h4⟩ := xcnb h
  have h2 := efq_ok hE hX h2
  have h3 := efq_ok hE hX h3
  have h4 := efq_ok hE hX h4
  unfold gfR at hy
  rw [xeqb k1, xeqb k2, h2, h3, h4] at hy
  exact hy
/-- a place of the cell that is known -/
noncomputable def gmy (env : aenv) (mem : List am) (t c : Nat) (f : ae → ae → Bool) : Bool := mem.any (fun m => cond (cond (Nat.beq m.1 t) (eeq env m.2.1 ((c : Int), [])) false) (cond (cond (Nat.beq m.2.2.2.1 0) true (Nat.beq m.2.2.2.1 2)) (f m.2.2.1 m.2.2.2.2.2) false) false)
theorem gmy_ok {GS : gho → (Nat → Int) → cg → Prop} {env : aenv} {fx : List ae} {mem : List am} {gh : List gho} {g : cg} {ρ : Nat → Int} (hC : coR h0 tyt GS env fx mem gh g ρ) {t c : Nat} {f : ae → ae → Bool} (h : gmy env mem t c f = true) : ∃ (i v : ae) (j : Nat), f i v = true ∧ ev ρ i = (j : Int) ∧ g c j = ev ρ v := by
  obtain ⟨m, hm, h⟩ := List.any_eq_true.mp h
  obtain ⟨h1, h⟩ := xcnb h
  obtain ⟨h2, h3⟩ := xcnb h
  obtain ⟨-, h4⟩ := xcnb h1
  obtain ⟨k, j, v, a1, a2, a3, ⟨q, w, b1, b2, b3⟩, a5⟩ := hC.2.2.1 m hm
  have e := eeq_ok hC.1 h4
  rw [a1, evc] at e
  have ek : k = c := by omega
  subst ek
  subst b3
  refine ⟨_, _, j, h3, a2, ?_⟩
  have ht : m.2.2.2.1 = 0 ∨ m.2.2.2.1 = 2 := by
    rcases xcnt h2 with q | q
    · exact Or.inl (xeqb q)
    · exact Or.inr (xeqb q)
  exact avR_num a5 ht
noncomputable def ghh8 (tyt : Lean.RArray (Nat × Nat)) (env : aenv) (fx : List ae) (mem : List am) (F : List agf) (k c : Nat) (d n w o : ae) : Bool :=
  cond (F.any (fun y => cond (gsy env fx k c n w o y) (efq env fx y.2.2.1 d) false)) true (match k with
    | 8 => cond (cond (efq env fx n (0, [])) (efq env fx d (0, [])) false) true (cond (cond (efq env fx n (1, [])) (cond (efq env fx d (1, [])) (efq env fx w (0, [])) false) false) true
        (F.any (fun y => cond (gsy env fx 8 c (eadc n (-1)) w o y) (cond (efq env fx n w) (efq env fx d y.2.2.1)
          (cond (cond (elef env fx 2 (eadc (eadd n w (-1)) 1)) true (elef env fx 2 (eadc (eadd w n (-1)) 1))) (cond (cond (efq env fx y.2.2.1 (0, [])) (efq env fx d n) false) true
            (cond (elef env fx 2 (eadd (1, []) y.2.2.1 (-1))) (match gvw tyt env mem c (eadc (eadd o y.2.2.1 1) (-1)) with
              | none => false
              | some vb => match gvw tyt env mem c (eadc (eadd o n 1) (-1)) with
                | none => false
                | some vi => cond (cond (elef env fx 2 (eadc (eadd vb vi (-1)) 1)) (efq env fx d n) false) true (cond (elef env fx 2 (eadd vi vb (-1))) (efq env fx d y.2.2.1) false)) false)) false)) false)))
    | 13 => cond (cond (efq env fx n (0, [])) (efq env fx d (0, [])) false) true
        (F.any (fun y => cond (gsy env fx 13 c (eadc n (-1)) w o y) (cond (efq env fx n (eadc w 1)) (efq env fx d y.2.2.1)
          (cond (cond (elef env fx 2 (eadd n w (-1))) true (elef env fx 2 (eadc (eadd w n (-1)) 2))) (match gvw tyt env mem c (eadc (eadd o n 1) (-1)) with
            | none => false
            | some vi => cond (cond (elef env fx 2 (eadc (eadd y.2.2.1 vi (-1)) 1)) (efq env fx d vi) false) true (cond (elef env fx 2 (eadd vi y.2.2.1 (-1))) (efq env fx d y.2.2.1) false)) false)) false))
    | 10 => cond (cond (efq env fx d (0, [])) (cond (elef env fx 2 (eadc (eadd n w (-1)) (-1))) true
          (F.any (fun y => cond (gsy env fx 10 c (eadc n (-1)) w o y) (cond (efq env fx y.2.2.1 (0, [])) (match gvw tyt env mem c (eadd o w 1) with
            | none => false
            | some vw => match gvw tyt env mem c (eadc (eadd o n 1) (-1)) with
              | none => false
              | some vi => cond (elef env fx 2 (eadc (eadd vi vw (-1)) 1)) true (elef env fx 2 (eadc (eadd vw vi (-1)) 1))) false) false))) false) true
        (cond (efq env fx d (1, [])) (match xg tyt c with
          | none => false
          | some t => match gvw tyt env mem c (eadd o w 1) with
            | none => false
            | some vw => gmy env mem t c (fun i v => cond (elef env fx 2 (eadc (eadd (eadd w o 1) i (-1)) 1)) (cond (elef env fx 2 (eadc (eadd i (eadd n o 1) (-1)) 1)) (efq env fx v vw) false) false)) false)
    | 11 => cond (cond (efq env fx d (1, [])) (cond (efq env fx n (0, [])) true
          (F.any (fun y => cond (gsy env fx 11 c (eadc n (-1)) w o y) (cond (efq env fx y.2.2.1 (1, [])) (match gvw tyt env mem c (eadc (eadd o n 1) (-1)) with
            | none => false
            | some vi => efit env fx vi 0 999999) false) false))) false) true
        (cond (efq env fx d (0, [])) (match xg tyt c with
          | none => false
          | some t => gmy env mem t c (fun i v => cond (elef env fx 2 (eadd o i (-1))) (cond (elef env fx 2 (eadc (eadd i (eadd n o 1) (-1)) 1)) (cond (elef env fx 2 (eadc v 1)) true (elef env fx 2 (eadd (1000000, []) v (-1)))) false) false)) false)
    | 9 => F.any (fun y => cond (gsy env fx 8 c n (0, []) o y) (F.any (fun z => cond (gsy env fx 8 c n y.2.2.1 o z) (cond (F.any (fun u => gf11 env fx (9, c, d, n, w, o) u))
        (cond (efq env fx z.2.2.1 (0, [])) (efq env fx d (0, [])) (cond (elef env fx 2 (eadd (1, []) z.2.2.1 (-1))) (match gvw tyt env mem c (eadc (eadd o z.2.2.1 1) (-1)) with
          | none => false
          | some v => efq env fx d v) false)) false) false)) false)
    | _ => false)
section HH8
variable {env : aenv} {fx : List ae} {mem : List am} {gh : List gho} {g : cg} {ρ : Nat → Int}
theorem gf11_ok (hC : coR h0 tyt (aGSd sv el (gGH fam AT π)) env fx mem gh g ρ) {y u : agf} (hu : gfR ρ g u) (h : gf11 env fx y u = true) : wif (sq g y.2.1 (ev ρ y.2.2.2.2.2)) (ev ρ y.2.2.2.1).toNat = 1 := by
  obtain ⟨h1, h⟩ := xcnb h
  obtain ⟨k1, k2⟩ := xcnb h1
  obtain ⟨h2, h3⟩ := xcnb h
  obtain ⟨h4, h5⟩ := xcnb h2
  have h3 := efq_ok hC.1 hC.2.1 h3
  have h4 := efq_ok hC.1 hC.2.1 h4
  have h5 := efq_ok hC.1 hC.2.1 h5
  rw [evc] at h3
  unfold gfR at hu
  rw [xeqb k1, xeqb k2, h3, h4, h5] at hu
  exact hu.1
theorem gf8_ok (hC : coR h0 tyt (aGSd sv el (gGH fam AT π)) env fx mem gh g ρ) {y z : agf} {w : ae} (hz : gfR ρ g z) (h : gf8 env fx y z w = true) : fgb (sq g y.2.1 (ev ρ y.2.2.2.2.2)) (-1) (ev ρ y.2.2.2.1).toNat = ev ρ w := by
  obtain ⟨h1, h⟩ := xcnb h
  obtain ⟨k1, k2⟩ := xcnb h1
  obtain ⟨h2, h3⟩ := xcnb h
  obtain ⟨h4, h5⟩ := xcnb h2
  obtain ⟨h6, h7⟩ := xcnb h3
  have h4 := efq_ok hC.1 hC.2.1 h4
  have h5 := efq_ok hC.1 hC.2.1 h5
  have h6 := efq_ok hC.1 hC.2.1 h6
  have h7 := efq_ok hC.1 hC.2.1 h7
  rw [evc] at h6
  rw [eadc_ev] at h7
  unfold gfR at hz
  rw [xeqb k1, xeqb k2, h4, h5, h6, h7] at hz
  have hz : fgb (sq g y.2.1 (ev ρ y.2.2.2.2.2)) (0 - 1) (ev ρ y.2.2.2.1).toNat + 1 = ev ρ w + 1 := hz.1
  have e : (0 : Int) - 1 = -1 := rfl
  rw [e] at hz
  omega
theorem gsh2_ok (hC : coR h0 tyt (aGSd sv el (gGH fam AT π)) env fx mem gh g ρ) {x y : agf} (hx : gfR ρ g x) (h : gsh2 env fx gh x y = true) : ev ρ x.2.2.2.1 = ev ρ y.2.2.2.1 ∧ ∀ j : Nat, j < (ev ρ x.2.2.2.1).toNat → sq g x.2.1 (ev ρ x.2.2.2.2.2) j = sq g y.2.1 (ev ρ y.2.2.2.2.2) j := by
  obtain ⟨h1, h⟩ := xcnb h
  obtain ⟨h2, h3⟩ := xcnb h
  have h1 := efq_ok hC.1 hC.2.1 h1
  have h2 := efq_ok hC.1 hC.2.1 h2
  rw [evc] at h2
  have h3 := gcov_ok hC.1 hC.2.1 (X := fun j => ∀ p : Nat, (p : Int) = ev ρ x.2.2.2.2.2 + (j : Int) → g y.2.1 j = g x.2.1 p) (fun r hr j b1 b2 p b3 => gpcs_ok hC.1 hC.2.1 gh hC.2.2.2 r hr j p b1 b2 b3) 3 (0, []) h3
  refine ⟨h1, fun j hj => ?_⟩
  have p3 := hx.2.2.2.2
  have := h3 j (by rw [evc]; omega) (by omega) ((ev ρ x.2.2.2.2.2).toNat + j) (by omega)
  unfold sq
  rw [h2]
  have e0 : (0 : Int).toNat + j = j := by show 0 + j = j; omega
  rw [e0]
  exact this.symm
theorem ghh8_ok (hC : coR h0 tyt (aGSd sv el (gGH fam AT π)) env fx mem gh g ρ) {F : List agf} (hF : ∀ y ∈ F, gfR ρ g y) {k c : Nat} {d n w o : ae} (p0 : 0 ≤ ev ρ d) (p1 : 0 ≤ ev ρ n) (p2 : 0 ≤ ev ρ w) (p3 : 0 ≤ ev ρ o) (h : ghh8 tyt env fx mem F k c d n w o = true) : FK k (sq g c (ev ρ o)) (ev ρ w) (ev ρ n).toNat = ev ρ d := by
  unfold ghh8 at h
  rcases xcnt h with h | h
  · obtain ⟨y, hy, h⟩ := List.any_eq_true.mp h
    obtain ⟨h1, h2⟩ := xcnb h
    rw [(gsy_ok hC.1 hC.2.1 (hF y hy) h1).1]
    exact efq_ok hC.1 hC.2.1 h2
  · have hlast : ∀ {e : ae} {m : Nat}, (ev ρ n).toNat = m + 1 → gvw tyt env mem c (eadc (eadd o n 1) (-1)) = some e → sq g c (ev ρ o) m = ev ρ e := fun hm hg => gvw_at hC p3 (by rw [eadc_ev, eadd_ev]; omega) hg
    split at h
    · show fgb (sq g c (ev ρ o)) (ev ρ w - 1) (ev ρ n).toNat + 1 = ev ρ d
      rcases xcnt h with h | h
      · obtain ⟨h1, h2⟩ := xcnb h
        have h1 := efq_ok hC.1 hC.2.1 h1
        have h2 := efq_ok hC.1 hC.2.1 h2
        rw [evc] at h1 h2
        rw [h1, h2]
        rfl
      · rcases xcnt h with h | h
        · obtain ⟨h1, h⟩ := xcnb h
          obtain ⟨h2, h3⟩ := xcnb h
          have h1 := efq_ok hC.1 hC.2.1 h1
          have h2 := efq_ok hC.1 hC.2.1 h2
          have h3 := efq_ok hC.1 hC.2.1 h3
          rw [evc] at h1 h2 h3
          rw [h1, h2, h3]
          rfl
        · obtain ⟨y, hy, h⟩ := List.any_eq_true.mp h
          obtain ⟨h1, h⟩ := xcnb h
          obtain ⟨y1, y2, y3, -, -⟩ := gsy_ok hC.1 hC.2.1 (hF y hy) h1
          rw [eadc_ev] at y1 y3
          have y1 : fgb (sq g c (ev ρ o)) (ev ρ w - 1) (ev ρ n + -1).toNat + 1 = ev ρ y.2.2.1 := y1
          obtain ⟨m, hm⟩ : ∃ m : Nat, (ev ρ n).toNat = m + 1 := ⟨(ev ρ n + -1).toNat, by omega⟩
          have hm2 : (ev ρ n + -1).toNat = m := by omega
          rw [hm2] at y1
          rw [hm]
          unfold fgb
          cases hb : efq env fx n w with
          | true =>
            rw [hb] at h
            have hb := efq_ok hC.1 hC.2.1 hb
            have h := efq_ok hC.1 hC.2.1 (show efq env fx d y.2.2.1 = true from h)
            rw [if_neg (fun q => q.1 (by omega))]
            omega
          | false =>
            rw [hb] at h
            simp only [cond_false] at h
            obtain ⟨h2, h⟩ := xcnb h
            have hne : (m : Int) ≠ ev ρ w - 1 := by
              rcases xcnt h2 with q | q
              · have q := elef_ok hC.1 hC.2.1 2 _ q
                rw [eadc_ev, eadd_ev] at q
                omega
              · have q := elef_ok hC.1 hC.2.1 2 _ q
                rw [eadc_ev, eadd_ev] at q
                omega
            rcases xcnt h with h | h
            · obtain ⟨h3, h4⟩ := xcnb h
              have h3 := efq_ok hC.1 hC.2.1 h3
              have h4 := efq_ok hC.1 hC.2.1 h4
              rw [evc] at h3
              rw [if_pos ⟨hne, Or.inl (by omega)⟩]
              omega
            · obtain ⟨h3, h⟩ := xcnb h
              have h3 := elef_ok hC.1 hC.2.1 2 _ h3
              rw [eadd_ev, evc] at h3
              cases hvb : gvw tyt env mem c (eadc (eadd o y.2.2.1 1) (-1)) with
              | none => rw [hvb] at h; cases h
              | some vb =>
                rw [hvb] at h
                dsimp only at h
                cases hvi : gvw tyt env mem c (eadc (eadd o n 1) (-1)) with
                | none => rw [hvi] at h; cases h
                | some vi =>
                  rw [hvi] at h
                  dsimp only at h
                  have ei := hlast hm hvi
                  have eb := gvw_at hC (p := (fgb (sq g c (ev ρ o)) (ev ρ w - 1) m).toNat) p3 (by rw [eadc_ev, eadd_ev]; omega) hvb
                  rcases xcnt h with h | h
                  · obtain ⟨h4, h5⟩ := xcnb h
                    have h4 := elef_ok hC.1 hC.2.1 2 _ h4
                    have h5 := efq_ok hC.1 hC.2.1 h5
                    rw [eadc_ev, eadd_ev] at h4
                    rw [if_pos ⟨hne, Or.inr (by rw [ei, eb]; omega)⟩]
                    omega
                  · obtain ⟨h4, h5⟩ := xcnb h
                    have h4 := elef_ok hC.1 hC.2.1 2 _ h4
                    have h5 := efq_ok hC.1 hC.2.1 h5
                    rw [eadd_ev] at h4
                    rw [if_neg (fun q => by
                      rcases q.2 with q | q
                      · omega
                      · rw [ei, eb] at q; omega)]
                    omega
    · show sec (sq g c (ev ρ o)) (ev ρ w) (ev ρ n).toNat = ev ρ d
      rcases xcnt h with h | h
      · obtain ⟨h1, h2⟩ := xcnb h
        have h1 := efq_ok hC.1 hC.2.1 h1
        have h2 := efq_ok hC.1 hC.2.1 h2
        rw [evc] at h1 h2
        rw [h1, h2]
        rfl
      · obtain ⟨y, hy, h⟩ := List.any_eq_true.mp h
        obtain ⟨h1, h⟩ := xcnb h
        obtain ⟨y1, y2, y3, -, -⟩ := gsy_ok hC.1 hC.2.1 (hF y hy) h1
        rw [eadc_ev] at y1 y3
        have y1 : sec (sq g c (ev ρ o)) (ev ρ w) (ev ρ n + -1).toNat = ev ρ y.2.2.1 := y1
        obtain ⟨m, hm⟩ : ∃ m : Nat, (ev ρ n).toNat = m + 1 := ⟨(ev ρ n + -1).toNat, by omega⟩
        have hm2 : (ev ρ n + -1).toNat = m := by omega
        rw [hm2] at y1
        rw [hm]
        unfold sec
        cases hb : efq env fx n (eadc w 1) with
        | true =>
          rw [hb] at h
          have hb := efq_ok hC.1 hC.2.1 hb
          rw [eadc_ev] at hb
          have h := efq_ok hC.1 hC.2.1 (show efq env fx d y.2.2.1 = true from h)
          rw [if_neg (fun q => q.1 (by omega))]
          omega
        | false =>
          rw [hb] at h
          simp only [cond_false] at h
          obtain ⟨h2, h⟩ := xcnb h
          have hne : (m : Int) ≠ ev ρ w := by
            rcases xcnt h2 with q | q
            · have q := elef_ok hC.1 hC.2.1 2 _ q
              rw [eadd_ev] at q
              omega
            · have q := elef_ok hC.1 hC.2.1 2 _ q
              rw [eadc_ev, eadd_ev] at q
              omega
          cases hvi : gvw tyt env mem c (eadc (eadd o n 1) (-1)) with
          | none => rw [hvi] at h; cases h
          | some vi =>
            rw [hvi] at h
            dsimp only at h
            have ei := hlast hm hvi
            rcases xcnt h with h | h
            · obtain ⟨h4, h5⟩ := xcnb h
              have h4 := elef_ok hC.1 hC.2.1 2 _ h4
              have h5 := efq_ok hC.1 hC.2.1 h5
              rw [eadc_ev, eadd_ev] at h4
              rw [if_pos ⟨hne, by rw [ei, y1]; omega⟩]
              omega
            · obtain ⟨h4, h5⟩ := xcnb h
              have h4 := elef_ok hC.1 hC.2.1 2 _ h4
              have h5 := efq_ok hC.1 hC.2.1 h5
              rw [eadd_ev] at h4
              rw [if_neg (fun q => by have q := q.2; rw [ei, y1] at q; omega)]
              omega
    · show tie (sq g c (ev ρ o)) (ev ρ w) (ev ρ n).toNat = ev ρ d
      have hw : ∀ {e : ae}, gvw tyt env mem c (eadd o w 1) = some e → sq g c (ev ρ o) (ev ρ w).toNat = ev ρ e := fun hg => gvw_at hC p3 (by rw [eadd_ev]; omega) hg
      rcases xcnt h with h | h
      · obtain ⟨h1, h⟩ := xcnb h
        have h1 := efq_ok hC.1 hC.2.1 h1
        rw [evc] at h1
        rw [h1]
        rcases xcnt h with h | h
        · have h := elef_ok hC.1 hC.2.1 2 _ h
          rw [eadc_ev, eadd_ev] at h
          exact tie_0 (by omega)
        · obtain ⟨y, hy, h⟩ := List.any_eq_true.mp h
          obtain ⟨h2, h⟩ := xcnb h
          obtain ⟨h3, h⟩ := xcnb h
          obtain ⟨y1, y2, y3, -, -⟩ := gsy_ok hC.1 hC.2.1 (hF y hy) h2
          have h3 := efq_ok hC.1 hC.2.1 h3
          rw [evc] at h3
          rw [eadc_ev] at y1 y3
          have y1 : tie (sq g c (ev ρ o)) (ev ρ w) (ev ρ n + -1).toNat = ev ρ y.2.2.1 := y1
          obtain ⟨m, hm⟩ : ∃ m : Nat, (ev ρ n).toNat = m + 1 := ⟨(ev ρ n + -1).toNat, by omega⟩
          have hm2 : (ev ρ n + -1).toNat = m := by omega
          rw [hm2, h3] at y1
          rw [hm]
          unfold tie
          cases hvw : gvw tyt env mem c (eadd o w 1) with
          | none => rw [hvw] at h; cases h
          | some vw =>
            rw [hvw] at h
            dsimp only at h
            cases hvi : gvw tyt env mem c (eadc (eadd o n 1) (-1)) with
            | none => rw [hvi] at h; cases h
            | some vi =>
              rw [hvi] at h
              dsimp only at h
              have ei := hlast hm hvi
              have ew := hw hvw
              rw [if_neg (fun q => by
                have q := q.2
                rw [ei, ew] at q
                rcases xcnt h with h | h
                · have h := elef_ok hC.1 hC.2.1 2 _ h
                  rw [eadc_ev, eadd_ev] at h
                  omega
                · have h := elef_ok hC.1 hC.2.1 2 _ h
                  rw [eadc_ev, eadd_ev] at h
                  omega)]
              exact y1
      · obtain ⟨h1, h⟩ := xcnb h
        have h1 := efq_ok hC.1 hC.2.1 h1
        rw [evc] at h1
        rw [h1]
        cases ht : xg tyt c with
        | none => rw [ht] at h; cases h
        | some t =>
          rw [ht] at h
          dsimp only at h
          cases hvw : gvw tyt env mem c (eadd o w 1) with
          | none => rw [hvw] at h; cases h
          | some vw =>
            rw [hvw] at h
            dsimp only at h
            obtain ⟨i, v, j, h2, h3, h4⟩ := gmy_ok hC h
            obtain ⟨h5, h6⟩ := xcnb h2
            obtain ⟨h7, h8⟩ := xcnb h6
            have h5 := elef_ok hC.1 hC.2.1 2 _ h5
            have h7 := elef_ok hC.1 hC.2.1 2 _ h7
            have h8 := efq_ok hC.1 hC.2.1 h8
            rw [eadc_ev, eadd_ev, eadd_ev] at h5
            rw [eadc_ev, eadd_ev, eadd_ev] at h7
            have ew := hw hvw
            refine tie_1 (p := j - (ev ρ o).toNat) ?_ (by omega) (by omega)
            rw [ew, ← h8, ← h4]
            unfold sq
            congr 1
            omega
    · show wif (sq g c (ev ρ o)) (ev ρ n).toNat = ev ρ d
      rcases xcnt h with h | h
      · obtain ⟨h1, h⟩ := xcnb h
        have h1 := efq_ok hC.1 hC.2.1 h1
        rw [evc] at h1
        rw [h1]
        rcases xcnt h with h | h
        · have h := efq_ok hC.1 hC.2.1 h
          rw [evc] at h
          rw [h]
          rfl
        · obtain ⟨y, hy, h⟩ := List.any_eq_true.mp h
          obtain ⟨h2, h⟩ := xcnb h
          obtain ⟨h3, h⟩ := xcnb h
          obtain ⟨y1, y2, y3, -, -⟩ := gsy_ok hC.1 hC.2.1 (hF y hy) h2
          have h3 := efq_ok hC.1 hC.2.1 h3
          rw [evc] at h3
          rw [eadc_ev] at y1 y3
          have y1 : wif (sq g c (ev ρ o)) (ev ρ n + -1).toNat = ev ρ y.2.2.1 := y1
          obtain ⟨m, hm⟩ : ∃ m : Nat, (ev ρ n).toNat = m + 1 := ⟨(ev ρ n + -1).toNat, by omega⟩
          have hm2 : (ev ρ n + -1).toNat = m := by omega
          rw [hm2, h3] at y1
          rw [hm]
          unfold wif
          cases hvi : gvw tyt env mem c (eadc (eadd o n 1) (-1)) with
          | none => rw [hvi] at h; cases h
          | some vi =>
            rw [hvi] at h
            have h := efit_ok hC.1 hC.2.1 (show efit env fx vi 0 999999 = true from h)
            have ei := hlast hm hvi
            rw [if_pos (by rw [ei]; exact h)]
            exact y1
      · obtain ⟨h1, h⟩ := xcnb h
        have h1 := efq_ok hC.1 hC.2.1 h1
        rw [evc] at h1
        rw [h1]
        cases ht : xg tyt c with
        | none => rw [ht] at h; cases h
        | some t =>
          rw [ht] at h
          dsimp only at h
          obtain ⟨i, v, j, h2, h3, h4⟩ := gmy_ok hC h
          obtain ⟨h5, h6⟩ := xcnb h2
          obtain ⟨h7, h8⟩ := xcnb h6
          have h5 := elef_ok hC.1 hC.2.1 2 _ h5
          have h7 := elef_ok hC.1 hC.2.1 2 _ h7
          rw [eadd_ev] at h5
          rw [eadc_ev, eadd_ev, eadd_ev] at h7
          have ep : sq g c (ev ρ o) (j - (ev ρ o).toNat) = ev ρ v := by
            rw [← h4]
            unfold sq
            congr 1
            omega
          refine wif_0 (p := j - (ev ρ o).toNat) ?_ (by omega)
          rw [ep]
          rcases xcnt h8 with q | q
          · have q := elef_ok hC.1 hC.2.1 2 _ q
            rw [eadc_ev] at q
            exact Or.inl (by omega)
          · have q := elef_ok hC.1 hC.2.1 2 _ q
            rw [eadd_ev, evc] at q
            exact Or.inr (by omega)
    · show sec (sq g c (ev ρ o)) (fgb (sq g c (ev ρ o)) (-1) (ev ρ n).toNat) (ev ρ n).toNat = ev ρ d
      obtain ⟨y, hy, h⟩ := List.any_eq_true.mp h
      obtain ⟨h1, h⟩ := xcnb h
      obtain ⟨z, hz, h⟩ := List.any_eq_true.mp h
      obtain ⟨h2, h⟩ := xcnb h
      obtain ⟨h3, h⟩ := xcnb h
      obtain ⟨u, hu, h3⟩ := List.any_eq_true.mp h3
      obtain ⟨y1, y2, -⟩ := gsy_ok hC.1 hC.2.1 (hF y hy) h1
      obtain ⟨z1, z2, -⟩ := gsy_ok hC.1 hC.2.1 (hF z hz) h2
      have w1 := gf11_ok hC (hF u hu) h3
      have w1 := wif_1 (show wif (sq g c (ev ρ o)) (ev ρ n).toNat = 1 from w1)
      rw [evc] at y1
      have y1 : fgb (sq g c (ev ρ o)) (0 - 1) (ev ρ n).toNat + 1 = ev ρ y.2.2.1 := y1
      have z1 : fgb (sq g c (ev ρ o)) (ev ρ y.2.2.1 - 1) (ev ρ n).toNat + 1 = ev ρ z.2.2.1 := z1
      have e : (0 : Int) - 1 = -1 := rfl
      rw [e] at y1
      have ey : fgb (sq g c (ev ρ o)) (-1) (ev ρ n).toNat = ev ρ y.2.2.1 - 1 := by omega
      rw [ey]
      obtain ⟨s1, s2⟩ := sec_fgb (a := sq g c (ev ρ o)) (w := ev ρ y.2.2.1 - 1) (n := (ev ρ n).toNat) (fun j hj => (w1 j hj).1)
      cases hb : efq env fx z.2.2.1 (0, []) with
      | true =>
        rw [hb] at h
        have hb := efq_ok hC.1 hC.2.1 hb
        have h := efq_ok hC.1 hC.2.1 (show efq env fx d (0, []) = true from h)
        rw [evc] at hb h
        rw [s1 (by omega), h]
      | false =>
        rw [hb] at h
        simp only [cond_false] at h
        obtain ⟨h4, h⟩ := xcnb h
        have h4 := elef_ok hC.1 hC.2.1 2 _ h4
        rw [eadd_ev, evc] at h4
        cases hv : gvw tyt env mem c (eadc (eadd o z.2.2.1 1) (-1)) with
        | none => rw [hv] at h; cases h
        | some v =>
          rw [hv] at h
          have h := efq_ok hC.1 hC.2.1 (show efq env fx d v = true from h)
          have ev' := gvw_at hC (p := (fgb (sq g c (ev ρ o)) (ev ρ y.2.2.1 - 1) (ev ρ n).toNat).toNat) p3 (by rw [eadc_ev, eadd_ev]; omega) hv
          rw [s2 (by omega), ev', h]
    · cases h
end HH8
noncomputable def wHH (fam : Lean.RArray (Nat × afam)) (tyt : Lean.RArray (Nat × Nat)) (AT : Nat) (srcs : List Nat) (env : aenv) (fx : List ae) (mem : List am) (gh : List gho) (x : gho) : Bool :=
  cond (gk8 x.1) (match gde4 env fx x.2.2.2 with
    | none => false
    | some D => ghh8 tyt env fx mem (gfl env fx gh) x.1 x.2.1 D.1 D.2.1 D.2.2.1 D.2.2.2) (zHH fam AT srcs env fx mem gh x)
theorem wHH_ok {srcs : List Nat} : aHH h0 tyt (aGSd sv el (gGH fam AT π)) (wHH fam tyt AT srcs) := by
  intro env fx mem gh x g ρ h hC
  unfold wHH at h
  cases h1 : gk8 x.1 with
  | false => rw [h1] at h; exact zHH_ok env fx mem gh x g ρ h hC
  | true =>
    rw [h1] at h
    simp only [cond_true] at h
    obtain ⟨xk, xa, xb, xe⟩ := x
    refine (gk8_sem h1).mpr ?_
    have h : (match gde4 env fx xe with
      | none => false
      | some D => ghh8 tyt env fx mem (gfl env fx gh) xk xa D.1 D.2.1 D.2.2.1 D.2.2.2) = true := h
    cases hd : gde4 env fx xe with
    | none => rw [hd] at h; cases h
    | some D =>
      rw [hd] at h
      dsimp only at h
      obtain ⟨-, p0, p1, p2, p3⟩ := gde4_ok hC.1 hC.2.1 hd
      exact (gde4_sem hC.1 hC.2.1 hd).mpr ⟨ghh8_ok hC (gfl_ok hC.1 hC.2.1 gh hC.2.2.2) p0 p1 p2 p3 h, p0, p1, p2, p3⟩
section HR8
variable {env : aenv} {fx : List ae} {mem : List am} {gh : List gho} {g : cg} {ρ : Nat → Int}
theorem hr0_no (hC : coR h0 tyt (aGSd sv el (gGH fam AT π)) env fx mem gh g ρ) {x y : agf} (hx : gfR ρ g x) (hy : gfR ρ g y) (h : hr0 env fx gh x y = true) : False := by
  obtain ⟨h1, h⟩ := xcnb h
  obtain ⟨k1, k2⟩ := xcnb h1
  obtain ⟨h2, h3⟩ := xcnb h
  obtain ⟨s1, s2⟩ := gsh2_ok hC hx h3
  have hx1 := hx.1
  have hy1 := hy.1
  rw [xeqb k1] at hx1
  rw [xeqb k2, ← s1] at hy1
  have hx1 : wif (sq g x.2.1 (ev ρ x.2.2.2.2.2)) (ev ρ x.2.2.2.1).toNat = ev ρ x.2.2.1 := hx1
  have hy1 : wif (sq g y.2.1 (ev ρ y.2.2.2.2.2)) (ev ρ x.2.2.2.1).toNat = ev ρ y.2.2.1 := hy1
  rw [wif_cg s2] at hx1
  rcases xcnt h2 with q | q
  · obtain ⟨a1, a2⟩ := xcnb q
    have a1 := efq_ok hC.1 hC.2.1 a1
    have a2 := efq_ok hC.1 hC.2.1 a2
    rw [evc] at a1 a2
    omega
  · obtain ⟨a1, a2⟩ := xcnb q
    have a1 := efq_ok hC.1 hC.2.1 a1
    have a2 := efq_ok hC.1 hC.2.1 a2
    rw [evc] at a1 a2
    omega
theorem hr1_ok (hC : coR h0 tyt (aGSd sv el (gGH fam AT π)) env fx mem gh g ρ) {F : List agf} (hF : ∀ y ∈ F, gfR ρ g y) {rv e : ae} {x y : agf} (hx : gfR ρ g x) (hy : gfR ρ g y) (h : hr1 tyt env fx mem gh F rv x y = some e) : ev ρ e = ev ρ rv := by
  unfold hr1 at h
  split at h
  · rename_i kx
    obtain ⟨h1, h⟩ := xcnd h
    obtain ⟨h2, h3⟩ := xcnd h
    have h3 : eadc y.2.2.1 (-1) = e := Option.some.inj h3
    obtain ⟨ky, h1⟩ := xcnb h1
    obtain ⟨h4, h5⟩ := xcnb h1
    have h4 := efq_ok hC.1 hC.2.1 h4
    have h5 := efq_ok hC.1 hC.2.1 h5
    rw [eadc_ev] at h4
    obtain ⟨s1, s2⟩ := gsh2_ok hC hx h2
    have hx1 := hx.1
    have hy1 := hy.1
    rw [kx] at hx1
    rw [xeqb ky, ← s1, ← h5] at hy1
    rw [FK_cg s2] at hx1
    rw [← h3, eadc_ev]
    omega
  · rename_i kx
    obtain ⟨h1, h⟩ := xcnd h
    have h1 := efq_ok hC.1 hC.2.1 h1
    have hx1 := hx.1
    rw [kx] at hx1
    split at h
    · rename_i ky
      obtain ⟨h2, h⟩ := xcnd h
      obtain ⟨h3, h⟩ := xcnd h
      have h : y.2.2.1 = e := Option.some.inj h
      obtain ⟨z, hz, h3⟩ := List.any_eq_true.mp h3
      obtain ⟨s1, s2⟩ := gsh2_ok hC hx h2
      rw [FK_cg s2] at hx1
      have hx1 : sec (sq g y.2.1 (ev ρ y.2.2.2.2.2)) (fgb (sq g y.2.1 (ev ρ y.2.2.2.2.2)) (-1) (ev ρ x.2.2.2.1).toNat) (ev ρ x.2.2.2.1).toNat = ev ρ x.2.2.1 := hx1
      have z1 := gf8_ok hC (hF z hz) h3
      rw [s1, z1] at hx1
      have hy1 := hy.1
      rw [ky] at hy1
      have hy1 : sec (sq g y.2.1 (ev ρ y.2.2.2.2.2)) (ev ρ y.2.2.2.2.1) (ev ρ y.2.2.2.1).toNat = ev ρ y.2.2.1 := hy1
      rw [← h]
      omega
    · rename_i ky
      obtain ⟨h0', h⟩ := xcnd h
      obtain ⟨h2, h⟩ := xcnd h
      obtain ⟨h3, h⟩ := xcnd h
      obtain ⟨h5, h⟩ := xcnd h
      obtain ⟨z, hz, h3⟩ := List.any_eq_true.mp h3
      obtain ⟨u, hu, h5⟩ := List.any_eq_true.mp h5
      have h0' := efq_ok hC.1 hC.2.1 h0'
      rw [evc] at h0'
      obtain ⟨s1, s2⟩ := gsh2_ok hC hx h2
      rw [FK_cg s2] at hx1
      have hx1 : sec (sq g y.2.1 (ev ρ y.2.2.2.2.2)) (fgb (sq g y.2.1 (ev ρ y.2.2.2.2.2)) (-1) (ev ρ x.2.2.2.1).toNat) (ev ρ x.2.2.2.1).toNat = ev ρ x.2.2.1 := hx1
      rw [s1] at hx1
      have z1 := gf8_ok hC (hF z hz) h3
      have w1 := wif_1 (gf11_ok hC (hF u hu) h5)
      have hy1 := hy.1
      rw [ky] at hy1
      have hy1 : tie (sq g y.2.1 (ev ρ y.2.2.2.2.2)) (ev ρ y.2.2.2.2.1) (ev ρ y.2.2.2.1).toNat = ev ρ y.2.2.1 := hy1
      rw [h0', ← z1] at hy1
      have t1 := sec_tie1 (fun j hj => (w1 j hj).1) hy1
      have ew := gvw_at hC (p := (fgb (sq g y.2.1 (ev ρ y.2.2.2.2.2)) (-1) (ev ρ y.2.2.2.1).toNat).toNat) hy.2.2.2.2 (by rw [eadd_ev, z1]; have := hy.2.2.2.1; omega) h
      omega
    · cases h
  · cases h
theorem hr2_ok (hC : coR h0 tyt (aGSd sv el (gGH fam AT π)) env fx mem gh g ρ) {F : List agf} (hF : ∀ y ∈ F, gfR ρ g y) {rv f : ae} {x y : agf} (hx : gfR ρ g x) (hy : gfR ρ g y) (h : hr2 tyt env fx mem gh F rv x y = some f) : ev ρ f ≤ 0 := by
  unfold hr2 at h
  obtain ⟨k0, h⟩ := xcnd h
  obtain ⟨kx, ky⟩ := xcnb k0
  obtain ⟨h1, h⟩ := xcnd h
  obtain ⟨h1, h0'⟩ := xcnb h1
  obtain ⟨hn, h⟩ := xcnd h
  obtain ⟨h2, h⟩ := xcnd h
  obtain ⟨h3, h⟩ := xcnd h
  obtain ⟨h5, h⟩ := xcnd h
  obtain ⟨z, hz, h3⟩ := List.any_eq_true.mp h3
  obtain ⟨u, hu, h5⟩ := List.any_eq_true.mp h5
  have h1 := efq_ok hC.1 hC.2.1 h1
  have h0' := efq_ok hC.1 hC.2.1 h0'
  have hn := elef_ok hC.1 hC.2.1 2 _ hn
  rw [eadd_ev, evc] at hn
  rw [evc] at h0'
  have hx1 := hx.1
  rw [xeqb kx] at hx1
  obtain ⟨s1, s2⟩ := gsh2_ok hC hx h2
  rw [FK_cg s2] at hx1
  have hx1 : sec (sq g y.2.1 (ev ρ y.2.2.2.2.2)) (fgb (sq g y.2.1 (ev ρ y.2.2.2.2.2)) (-1) (ev ρ x.2.2.2.1).toNat) (ev ρ x.2.2.2.1).toNat = ev ρ x.2.2.1 := hx1
  rw [s1] at hx1
  have z1 := gf8_ok hC (hF z hz) h3
  have w1 := wif_1 (gf11_ok hC (hF u hu) h5)
  have hy1 := hy.1
  rw [xeqb ky] at hy1
  have hy1 : tie (sq g y.2.1 (ev ρ y.2.2.2.2.2)) (ev ρ y.2.2.2.2.1) (ev ρ y.2.2.2.1).toNat = ev ρ y.2.2.1 := hy1
  rw [h0', ← z1] at hy1
  have t1 := sec_tie0 (by omega) (fun j hj => (w1 j hj).1) hy1
  cases hv : gvw tyt env mem y.2.1 (eadd y.2.2.2.2.2 y.2.2.2.2.1 1) with
  | none => rw [hv] at h; cases h
  | some w =>
    rw [hv] at h
    have h : eadc (eadd rv w (-1)) 1 = f := Option.some.inj h
    have ew := gvw_at hC (p := (fgb (sq g y.2.1 (ev ρ y.2.2.2.2.2)) (-1) (ev ρ y.2.2.2.1).toNat).toNat) hy.2.2.2.2 (by rw [eadd_ev, z1]; have := hy.2.2.2.1; omega) hv
    rw [← h, eadc_ev, eadd_ev]
    omega
end HR8
theorem zHR_ok : aHR h0 tyt (aGSd sv el (gGH fam AT π)) := by
  intro env fx mem gh g ρ rv v hC hv
  have hF := gfl_ok hC.1 hC.2.1 gh hC.2.2.2
  unfold zHR
  cases hg : gfl env fx gh with
  | nil =>
    refine ⟨fun h => (by cases h), fun r hr => ?_⟩
    have e := Option.some.inj hr
    rw [← e]
    exact ⟨hv, fun f hf => absurd hf List.not_mem_nil⟩
  | cons x l =>
    rw [hg] at hF
    dsimp only
    cases h0 : (x :: l).any (fun a => (x :: l).any (fun b => hr0 env fx gh a b)) with
    | true =>
      obtain ⟨a, ha, h1⟩ := List.any_eq_true.mp h0
      obtain ⟨b, hb, h1⟩ := List.any_eq_true.mp h1
      exact (hr0_no hC (hF a ha) (hF b hb) h1).elim
    | false =>
      simp only [cond_false]
      have same : ∀ r : av × List ae, some ((rv, []) : av × List ae) = some r → avR tyt ρ r.1 v ∧ fxR r.2 ρ := fun r hr => by
        have e := Option.some.inj hr
        rw [← e]
        exact ⟨hv, fun f hf => absurd hf List.not_mem_nil⟩
      cases h1 : Nat.beq rv.1 0 with
      | false =>
        simp only [cond_false]
        exact ⟨fun h => (by cases h), same⟩
      | true =>
        simp only [cond_true]
        cases h2 : gff (fun a => gff (fun b => hr1 tyt env fx mem gh (x :: l) rv.2.2 a b) (x :: l)) (x :: l) with
        | some e =>
          dsimp only
          refine ⟨fun h => (by cases h), fun r hr => ?_⟩
          have er := Option.some.inj hr
          rw [← er]
          refine ⟨?_, fun f hf => absurd hf List.not_mem_nil⟩
          obtain ⟨a, ha, h3⟩ := gff_ok h2
          obtain ⟨b, hb, h4⟩ := gff_ok h3
          have ee := hr1_ok hC hF (hF a ha) (hF b hb) h4
          obtain ⟨rt, ru, re⟩ := rv
          have et : rt = 0 := xeqb h1
          subst et
          have hv : v = (0, ev ρ re) ∧ cI (ev ρ re) := hv
          show v = (0, ev ρ e) ∧ cI (ev ρ e)
          have ee : ev ρ e = ev ρ re := ee
          rw [ee]
          exact hv
        | none =>
          dsimp only
          cases h3 : gff (fun a => gff (fun b => hr2 tyt env fx mem gh (x :: l) rv.2.2 a b) (x :: l)) (x :: l) with
          | some f =>
            dsimp only
            refine ⟨fun h => (by cases h), fun r hr => ?_⟩
            have er := Option.some.inj hr
            rw [← er]
            refine ⟨hv, fun f' hf => ?_⟩
            obtain ⟨a, ha, h4⟩ := gff_ok h3
            obtain ⟨b, hb, h5⟩ := gff_ok h4
            rw [List.mem_singleton.mp hf]
            exact hr2_ok hC hF (hF a ha) (hF b hb) h5
          | none =>
            dsimp only
            exact ⟨fun h => (by cases h), same⟩
/-- a row within bounds: what is loaded -/
noncomputable def ghk8 (env : aenv) (fx : List ae) (c i : ae) : List gho → Int × Int → Int × Int
  | [], b => b
  | x :: l, b => cond (cond (Nat.beq x.1 11) (match c.2 with
      | [] => zeq c.1 (x.2.1 : Int)
      | _ => false) false)
    (match gde4 env fx x.2.2.2 with
      | none => ghk8 env fx c i l b
      | some D => cond (cond (efq env fx D.1 (1, [])) (cond (elef env fx 2 (eadd D.2.2.2 i (-1))) (elef env fx 2 (eadc (eadd i (eadd D.2.1 D.2.2.2 1) (-1)) 1)) false) false) (ghk8 env fx c i l (zmx b.1 0, zmn b.2 999999)) (ghk8 env fx c i l b)) (ghk8 env fx c i l b)
theorem ghk8_ok {env : aenv} {fx : List ae} {g : cg} {ρ : Nat → Int} (hE : envR env ρ) (hX : fxR fx ρ) {c i : ae} {k j : Nat} (hc : ev ρ c = (k : Int)) (hi : ev ρ i = (j : Int)) : ∀ (gh : List gho) (b : Int × Int), ghR (aGSd sv el (gGH fam AT π)) gh ρ g → b.1 ≤ g k j ∧ g k j ≤ b.2 → (ghk8 env fx c i gh b).1 ≤ g k j ∧ g k j ≤ (ghk8 env fx c i gh b).2
  | [], b, _, hb => hb
  | x :: l, b, hR, hb => by
    have hl : ghR (aGSd sv el (gGH fam AT π)) l ρ g := fun z hz => hR z (List.mem_cons_of_mem _ hz)
    have hG := hR x List.mem_cons_self
    have ih := fun b' hb' => ghk8_ok hE hX hc hi l b' hl hb'
    obtain ⟨xk, xa, xb, xe⟩ := x
    unfold ghk8
    dsimp only
    cases h1 : cond (Nat.beq xk 11) (match c.2 with
      | [] => zeq c.1 (xa : Int)
      | _ => false) false with
    | false => exact ih b hb
    | true =>
      simp only [cond_true]
      obtain ⟨x1, h1⟩ := xcnb h1
      have e1 : xk = 11 := xeqb x1
      subst e1
      have hG : FKV 11 g xa (ev ρ xe) := hG
      have ek : xa = k := by
        split at h1
        · rename_i hn
          have e := zeq_iff.mp h1
          have e2 : ev ρ c = c.1 := by unfold ev; rw [hn]; show _ + 0 = _; omega
          omega
        · cases h1
      cases hd : gde4 env fx xe with
      | none => exact ih b hb
      | some D =>
        dsimp only
        cases h2 : cond (efq env fx D.1 (1, [])) (cond (elef env fx 2 (eadd D.2.2.2 i (-1))) (elef env fx 2 (eadc (eadd i (eadd D.2.1 D.2.2.2 1) (-1)) 1)) false) false with
        | false => exact ih b hb
        | true =>
          simp only [cond_true]
          obtain ⟨h3, h4⟩ := xcnb h2
          obtain ⟨h5, h6⟩ := xcnb h4
          have h3 := efq_ok hE hX h3
          have h5 := elef_ok hE hX 2 _ h5
          have h6 := elef_ok hE hX 2 _ h6
          rw [evc] at h3
          rw [eadd_ev] at h5
          rw [eadc_ev, eadd_ev, eadd_ev] at h6
          obtain ⟨y1, y2, y3, y4, y5⟩ := (gde4_sem hE hX hd).mp hG
          have y1 : wif (sq g xa (ev ρ D.2.2.2)) (ev ρ D.2.1).toNat = ev ρ D.1 := y1
          have y5 : 0 ≤ ev ρ D.2.2.2 := y5
          rw [h3] at y1
          have w := wif_1 y1 (j - (ev ρ D.2.2.2).toNat) (by omega)
          have es : sq g xa (ev ρ D.2.2.2) (j - (ev ρ D.2.2.2).toNat) = g k j := by
            unfold sq
            rw [ek]
            congr 1
            omega
          rw [es] at w
          exact ih _ ⟨zmx_of hb.1 w.1, zmn_of hb.2 w.2⟩
noncomputable def wHK (fam : Lean.RArray (Nat × afam)) (tyt : Lean.RArray (Nat × Nat)) (typs : Lean.RArray (Nat × aty)) (env : aenv) (fx : List ae) (mem : List am) (gh : List gho) (t : Nat) (c i : ae) (b : Int × Int) : (Int × Int) × List apn × ae := (ghk8 env fx c i gh (gHK0 fam env fx mem gh t c i b), ghk5 tyt typs env fx t c i gh, (0, []))
theorem wHK_ok (hW : aWd h0 tyt typs) : aHK h0 tyt (aGSd sv el (gGH fam AT π)) (wHK fam tyt typs) := by
  intro env fx mem gh g ρ t c i b k j hC hc hi ht hb1 hb2
  obtain ⟨h1, h2⟩ := ghk8_ok hC.1 hC.2.1 hc hi gh _ hC.2.2.2 (gHK0_ok env fx mem gh g ρ t c i b k j hC hc hi ht hb1 hb2)
  have e : ev ρ ((0, []) : ae) = 0 := ecst_ev ρ 0
  refine ⟨⟨?_, ?_⟩, ghk5_ok hW hC.1 hC.2.1 hc hi ht gh hC.2.2.2⟩
  · show (ghk8 env fx c i gh (gHK0 fam env fx mem gh t c i b)).1 ≤ g k j - ev ρ ((0, []) : ae)
    omega
  · show g k j - ev ρ ((0, []) : ae) ≤ (ghk8 env fx c i gh (gHK0 fam env fx mem gh t c i b)).2
    omega
end Gho8
