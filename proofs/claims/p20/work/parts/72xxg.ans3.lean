/-! small answers: word, oath, kin, person, told (laid by wip/tools/mk72xxg.py) -/
section Ans3
variable {sv : Nat → Int32} {L : Nat} {n n' : Nat} {lf lf' : dlf} {c d c' d' : cg} {np nq N P Q T W : Nat} {a b e f r r' : Int} {o : cg × Option cv}
def xqw0 (c : cg) (W k : Nat) : Bool := decide (ohw c k = W ∧ ohs c k = 0 ∧ trh c (ohp c k) (oht c k) ≠ (ohq c k : Int))
theorem xqw0_i {c : cg} {W k : Nat} : xqw0 c W k = true ↔ ohw c k = W ∧ ohs c k = 0 ∧ trh c (ohp c k) (oht c k) ≠ (ohq c k : Int) := by
  unfold xqw0
  exact decide_eq_true_iff
def xqw1 (c : cg) (W k : Nat) : Bool := decide (ohw c k = W ∧ ohs c k = 0 ∧ trh c (ohp c k) (oht c k) = (ohq c k : Int))
theorem xqw1_i {c : cg} {W k : Nat} : xqw1 c W k = true ↔ ohw c k = W ∧ ohs c k = 0 ∧ trh c (ohp c k) (oht c k) = (ohq c k : Int) := by
  unfold xqw1
  exact decide_eq_true_iff
def xqw2 (c : cg) (W k : Nat) : Bool := decide (ohw c k = W ∧ ohs c k = 1)
theorem xqw2_i {c : cg} {W k : Nat} : xqw2 c W k = true ↔ ohw c k = W ∧ ohs c k = 1 := by
  unfold xqw2
  exact decide_eq_true_iff
def xqsw (c : cg) (W k : Nat) : Bool := decide (ohw c k = W)
theorem xqsw_i {c : cg} {W k : Nat} : xqsw c W k = true ↔ ohw c k = W := by
  unfold xqsw
  exact decide_eq_true_iff
def xqst (c : cg) (s : Int) (k : Nat) : Bool := decide (ohs c k = s)
theorem xqst_i {c : cg} {s : Int} {k : Nat} : xqst c s k = true ↔ ohs c k = s := by
  unfold xqst
  exact decide_eq_true_iff
def xqli (c : cg) (k : Nat) : Bool := decide (ohs c k = 0 ∧ trh c (ohp c k) (oht c k) ≠ (ohq c k : Int))
theorem xqli_i {c : cg} {k : Nat} : xqli c k = true ↔ ohs c k = 0 ∧ trh c (ohp c k) (oht c k) ≠ (ohq c k : Int) := by
  unfold xqli
  exact decide_eq_true_iff
def xqrf (c : cg) (k : Nat) : Bool := decide (c (29 + k) 6 ≠ 0)
theorem xqrf_i {c : cg} {k : Nat} : xqrf c k = true ↔ c (29 + k) 6 ≠ 0 := by
  unfold xqrf
  exact decide_eq_true_iff
theorem x_stb0 (hV : OHV c N) (hN16 : N ≤ 16) (hN : c 3 9 = (N : Int)) (hW : W ≤ 5) (h : zr sv L n 136 0 lf [] c o) (h0 : lf 0 = (4, 3)) (h1 : lf 1 = (0, (W : Int))) (h2 : lf 2 = (0, 0)) : o = (c, some (0, (cnt (xqw0 c W) N : Int))) := by
  obtain ⟨lf1, a0, a1, a2, a3, a4, h⟩ := t_stb0_0 hW h h0 h1 h2
  refine zloop (fun k lf g => g = c ∧ k ≤ N ∧ lf 0 = (4, 3) ∧ lf 1 = (0, (W : Int)) ∧ lf 2 = (0, 0) ∧ lf 3 = (0, (cnt (xqw0 c W) k : Int)) ∧ lf 4 = (0, (k : Int))) _ ?_ n 0 lf1 c ⟨rfl, by omega, a0, a1, a2, a3, a4⟩ h
  intro n k lf g ⟨e, hk, b0, b1, b2, b3, b4⟩ hzk
  subst e
  have h := hzk
  have cl := cnt_le (f := xqw0 g W) k
  by_cases hlt : k < N
  · obtain ⟨v1, v2, v3, v4, v5⟩ := hV k hlt
    rcases t_stb0_s hW (show cnt (xqw0 g W) k ≤ 15 by omega) v2 v3 v4 v5 (by omega) hN16 hN (show g (18 + 2 * ohp g k) (oht g k) = trh g (ohp g k) (oht g k) from rfl) v1 hlt h b0 b1 b2 b3 b4 with ⟨z, lf2, y0, y1, y2, y3, y4, h⟩ | ⟨z, lf2, y0, y1, y2, y3, y4, h⟩
    · have hf : xqw0 g W k = false := bf (fun q => by
        have q := xqw0_i.mp q
        omega)
      exact Or.inr ⟨lf2, _, ⟨rfl, hlt, y0, y1, y2, by rw [y3, cnt_n hf], by rw [y4]; exact congrArg _ (Int.add_comm _ _)⟩, h⟩
    · have hf : xqw0 g W k = true := xqw0_i.mpr (by omega)
      exact Or.inr ⟨lf2, _, ⟨rfl, hlt, y0, y1, y2, by rw [y3, cnt_s hf]; exact congrArg _ (Int.add_comm _ _), by rw [y4]; exact congrArg _ (Int.add_comm _ _)⟩, h⟩
  · have ek : k = N := by omega
    subst ek
    exact Or.inl (t_stb0_e hW (by omega) hN16 hN16 hN (Nat.le_refl _) h b0 b1 b2 b3 b4)
theorem x_stb1 (hV : OHV c N) (hN16 : N ≤ 16) (hN : c 3 9 = (N : Int)) (hW : W ≤ 5) (h : zr sv L n 136 0 lf [] c o) (h0 : lf 0 = (4, 3)) (h1 : lf 1 = (0, (W : Int))) (h2 : lf 2 = (0, 1)) : o = (c, some (0, (cnt (xqw1 c W) N : Int))) := by
  obtain ⟨lf1, a0, a1, a2, a3, a4, h⟩ := t_stb0_1 hW h h0 h1 h2
  refine zloop (fun k lf g => g = c ∧ k ≤ N ∧ lf 0 = (4, 3) ∧ lf 1 = (0, (W : Int)) ∧ lf 2 = (0, 1) ∧ lf 3 = (0, (cnt (xqw1 c W) k : Int)) ∧ lf 4 = (0, (k : Int))) _ ?_ n 0 lf1 c ⟨rfl, by omega, a0, a1, a2, a3, a4⟩ h
  intro n k lf g ⟨e, hk, b0, b1, b2, b3, b4⟩ hzk
  subst e
  have h := hzk
  have cl := cnt_le (f := xqw1 g W) k
  by_cases hlt : k < N
  · obtain ⟨v1, v2, v3, v4, v5⟩ := hV k hlt
    rcases t_stb1_s hW (show cnt (xqw1 g W) k ≤ 15 by omega) v2 v3 v4 v5 (by omega) hN16 hN (show g (18 + 2 * ohp g k) (oht g k) = trh g (ohp g k) (oht g k) from rfl) v1 hlt h b0 b1 b2 b3 b4 with ⟨z, lf2, y0, y1, y2, y3, y4, h⟩ | ⟨z, lf2, y0, y1, y2, y3, y4, h⟩
    · have hf : xqw1 g W k = false := bf (fun q => by
        have q := xqw1_i.mp q
        omega)
      exact Or.inr ⟨lf2, _, ⟨rfl, hlt, y0, y1, y2, by rw [y3, cnt_n hf], by rw [y4]; exact congrArg _ (Int.add_comm _ _)⟩, h⟩
    · have hf : xqw1 g W k = true := xqw1_i.mpr (by omega)
      exact Or.inr ⟨lf2, _, ⟨rfl, hlt, y0, y1, y2, by rw [y3, cnt_s hf]; exact congrArg _ (Int.add_comm _ _), by rw [y4]; exact congrArg _ (Int.add_comm _ _)⟩, h⟩
  · have ek : k = N := by omega
    subst ek
    exact Or.inl (t_stb1_e hW (by omega) hN16 hN16 hN (Nat.le_refl _) h b0 b1 b2 b3 b4)
theorem x_vdb (hV : OHV c N) (hN16 : N ≤ 16) (hN : c 3 9 = (N : Int)) (hW : W ≤ 5) (h : zr sv L n 140 0 lf [] c o) (h0 : lf 0 = (4, 3)) (h1 : lf 1 = (0, (W : Int))) : o = (c, some (0, (cnt (xqw2 c W) N : Int))) := by
  obtain ⟨lf1, a0, a1, a2, a3, h⟩ := t_vdb0 hW h h0 h1
  refine zloop (fun k lf g => g = c ∧ k ≤ N ∧ lf 0 = (4, 3) ∧ lf 1 = (0, (W : Int)) ∧ lf 2 = (0, (cnt (xqw2 c W) k : Int)) ∧ lf 3 = (0, (k : Int))) _ ?_ n 0 lf1 c ⟨rfl, by omega, a0, a1, a2, a3⟩ h
  intro n k lf g ⟨e, hk, b0, b1, b2, b3⟩ hzk
  subst e
  have h := hzk
  have cl := cnt_le (f := xqw2 g W) k
  by_cases hlt : k < N
  · obtain ⟨v1, v2, v3, v4, v5⟩ := hV k hlt
    rcases t_vdb_s hW (show cnt (xqw2 g W) k ≤ 15 by omega) v2 v3 v4 v5 (by omega) hN16 hN v1 hlt h b0 b1 b2 b3 with ⟨z, lf2, y0, y1, y2, y3, h⟩ | ⟨z, lf2, y0, y1, y2, y3, h⟩
    · have hf : xqw2 g W k = false := bf (fun q => by
        have q := xqw2_i.mp q
        omega)
      exact Or.inr ⟨lf2, _, ⟨rfl, hlt, y0, y1, by rw [y2, cnt_n hf], by rw [y3]; exact congrArg _ (Int.add_comm _ _)⟩, h⟩
    · have hf : xqw2 g W k = true := xqw2_i.mpr (by omega)
      exact Or.inr ⟨lf2, _, ⟨rfl, hlt, y0, y1, by rw [y2, cnt_s hf]; exact congrArg _ (Int.add_comm _ _), by rw [y3]; exact congrArg _ (Int.add_comm _ _)⟩, h⟩
  · have ek : k = N := by omega
    subst ek
    exact Or.inl (t_vdb_e hW (by omega) hN16 hN16 hN (Nat.le_refl _) h b0 b1 b2 b3)
theorem x_swb (hV : OHV c N) (hN16 : N ≤ 16) (hN : c 3 9 = (N : Int)) (hW : W ≤ 5) (h : zr sv L n 83 0 lf [] c o) (h0 : lf 0 = (4, 3)) (h1 : lf 1 = (0, (W : Int))) : o = (c, some (0, (cnt (xqsw c W) N : Int))) := by
  obtain ⟨lf1, a0, a1, a2, a3, h⟩ := t_swb0 hW h h0 h1
  refine zloop (fun k lf g => g = c ∧ k ≤ N ∧ lf 0 = (4, 3) ∧ lf 1 = (0, (W : Int)) ∧ lf 2 = (0, (cnt (xqsw c W) k : Int)) ∧ lf 3 = (0, (k : Int))) _ ?_ n 0 lf1 c ⟨rfl, by omega, a0, a1, a2, a3⟩ h
  intro n k lf g ⟨e, hk, b0, b1, b2, b3⟩ hzk
  subst e
  have h := hzk
  have cl := cnt_le (f := xqsw g W) k
  by_cases hlt : k < N
  · obtain ⟨v1, v2, v3, v4, v5⟩ := hV k hlt
    rcases t_swb_s hW (show cnt (xqsw g W) k ≤ 15 by omega) v2 v3 v4 v5 (by omega) hN16 hN v1 hlt h b0 b1 b2 b3 with ⟨z, lf2, y0, y1, y2, y3, h⟩ | ⟨z, lf2, y0, y1, y2, y3, h⟩
    · have hf : xqsw g W k = false := bf (fun q => by
        have q := xqsw_i.mp q
        omega)
      exact Or.inr ⟨lf2, _, ⟨rfl, hlt, y0, y1, by rw [y2, cnt_n hf], by rw [y3]; exact congrArg _ (Int.add_comm _ _)⟩, h⟩
    · have hf : xqsw g W k = true := xqsw_i.mpr (by omega)
      exact Or.inr ⟨lf2, _, ⟨rfl, hlt, y0, y1, by rw [y2, cnt_s hf]; exact congrArg _ (Int.add_comm _ _), by rw [y3]; exact congrArg _ (Int.add_comm _ _)⟩, h⟩
  · have ek : k = N := by omega
    subst ek
    exact Or.inl (t_swb_e hW (by omega) hN16 hN16 hN (Nat.le_refl _) h b0 b1 b2 b3)
theorem x_ins0 (hV : OHV c N) (hN16 : N ≤ 16) (hN : c 3 9 = (N : Int)) (h : zr sv L n 76 0 lf [] c o) (h0 : lf 0 = (4, 3)) (h1 : lf 1 = (0, 0)) : o = (c, some (0, (cnt (xqst c 0) N : Int))) := by
  obtain ⟨lf1, a0, a1, a2, a3, h⟩ := t_ins0_0 h h0 h1
  refine zloop (fun k lf g => g = c ∧ k ≤ N ∧ lf 0 = (4, 3) ∧ lf 1 = (0, 0) ∧ lf 2 = (0, (cnt (xqst c 0) k : Int)) ∧ lf 3 = (0, (k : Int))) _ ?_ n 0 lf1 c ⟨rfl, by omega, a0, a1, a2, a3⟩ h
  intro n k lf g ⟨e, hk, b0, b1, b2, b3⟩ hzk
  subst e
  have h := hzk
  have cl := cnt_le (f := xqst g 0) k
  by_cases hlt : k < N
  · obtain ⟨v1, v2, v3, v4, v5⟩ := hV k hlt
    rcases t_ins0_s (show cnt (xqst g 0) k ≤ 15 by omega) v2 v3 v4 v5 (by omega) hN16 hN v1 hlt h b0 b1 b2 b3 with ⟨z, lf2, y0, y1, y2, y3, h⟩ | ⟨z, lf2, y0, y1, y2, y3, h⟩
    · have hf : xqst g 0 k = false := bf (fun q => by
        have q := xqst_i.mp q
        omega)
      exact Or.inr ⟨lf2, _, ⟨rfl, hlt, y0, y1, by rw [y2, cnt_n hf], by rw [y3]; exact congrArg _ (Int.add_comm _ _)⟩, h⟩
    · have hf : xqst g 0 k = true := xqst_i.mpr (by omega)
      exact Or.inr ⟨lf2, _, ⟨rfl, hlt, y0, y1, by rw [y2, cnt_s hf]; exact congrArg _ (Int.add_comm _ _), by rw [y3]; exact congrArg _ (Int.add_comm _ _)⟩, h⟩
  · have ek : k = N := by omega
    subst ek
    exact Or.inl (t_ins0_e (by omega) hN16 hN16 hN (Nat.le_refl _) h b0 b1 b2 b3)
theorem x_ins1 (hV : OHV c N) (hN16 : N ≤ 16) (hN : c 3 9 = (N : Int)) (h : zr sv L n 76 0 lf [] c o) (h0 : lf 0 = (4, 3)) (h1 : lf 1 = (0, 1)) : o = (c, some (0, (cnt (xqst c 1) N : Int))) := by
  obtain ⟨lf1, a0, a1, a2, a3, h⟩ := t_ins0_1 h h0 h1
  refine zloop (fun k lf g => g = c ∧ k ≤ N ∧ lf 0 = (4, 3) ∧ lf 1 = (0, 1) ∧ lf 2 = (0, (cnt (xqst c 1) k : Int)) ∧ lf 3 = (0, (k : Int))) _ ?_ n 0 lf1 c ⟨rfl, by omega, a0, a1, a2, a3⟩ h
  intro n k lf g ⟨e, hk, b0, b1, b2, b3⟩ hzk
  subst e
  have h := hzk
  have cl := cnt_le (f := xqst g 1) k
  by_cases hlt : k < N
  · obtain ⟨v1, v2, v3, v4, v5⟩ := hV k hlt
    rcases t_ins1_s (show cnt (xqst g 1) k ≤ 15 by omega) v2 v3 v4 v5 (by omega) hN16 hN v1 hlt h b0 b1 b2 b3 with ⟨z, lf2, y0, y1, y2, y3, h⟩ | ⟨z, lf2, y0, y1, y2, y3, h⟩
    · have hf : xqst g 1 k = false := bf (fun q => by
        have q := xqst_i.mp q
        omega)
      exact Or.inr ⟨lf2, _, ⟨rfl, hlt, y0, y1, by rw [y2, cnt_n hf], by rw [y3]; exact congrArg _ (Int.add_comm _ _)⟩, h⟩
    · have hf : xqst g 1 k = true := xqst_i.mpr (by omega)
      exact Or.inr ⟨lf2, _, ⟨rfl, hlt, y0, y1, by rw [y2, cnt_s hf]; exact congrArg _ (Int.add_comm _ _), by rw [y3]; exact congrArg _ (Int.add_comm _ _)⟩, h⟩
  · have ek : k = N := by omega
    subst ek
    exact Or.inl (t_ins1_e (by omega) hN16 hN16 hN (Nat.le_refl _) h b0 b1 b2 b3)
theorem x_ins2 (hV : OHV c N) (hN16 : N ≤ 16) (hN : c 3 9 = (N : Int)) (h : zr sv L n 76 0 lf [] c o) (h0 : lf 0 = (4, 3)) (h1 : lf 1 = (0, 2)) : o = (c, some (0, (cnt (xqst c 2) N : Int))) := by
  obtain ⟨lf1, a0, a1, a2, a3, h⟩ := t_ins0_2 h h0 h1
  refine zloop (fun k lf g => g = c ∧ k ≤ N ∧ lf 0 = (4, 3) ∧ lf 1 = (0, 2) ∧ lf 2 = (0, (cnt (xqst c 2) k : Int)) ∧ lf 3 = (0, (k : Int))) _ ?_ n 0 lf1 c ⟨rfl, by omega, a0, a1, a2, a3⟩ h
  intro n k lf g ⟨e, hk, b0, b1, b2, b3⟩ hzk
  subst e
  have h := hzk
  have cl := cnt_le (f := xqst g 2) k
  by_cases hlt : k < N
  · obtain ⟨v1, v2, v3, v4, v5⟩ := hV k hlt
    rcases t_ins2_s (show cnt (xqst g 2) k ≤ 15 by omega) v2 v3 v4 v5 (by omega) hN16 hN v1 hlt h b0 b1 b2 b3 with ⟨z, lf2, y0, y1, y2, y3, h⟩ | ⟨z, lf2, y0, y1, y2, y3, h⟩
    · have hf : xqst g 2 k = false := bf (fun q => by
        have q := xqst_i.mp q
        omega)
      exact Or.inr ⟨lf2, _, ⟨rfl, hlt, y0, y1, by rw [y2, cnt_n hf], by rw [y3]; exact congrArg _ (Int.add_comm _ _)⟩, h⟩
    · have hf : xqst g 2 k = true := xqst_i.mpr (by omega)
      exact Or.inr ⟨lf2, _, ⟨rfl, hlt, y0, y1, by rw [y2, cnt_s hf]; exact congrArg _ (Int.add_comm _ _), by rw [y3]; exact congrArg _ (Int.add_comm _ _)⟩, h⟩
  · have ek : k = N := by omega
    subst ek
    exact Or.inl (t_ins2_e (by omega) hN16 hN16 hN (Nat.le_refl _) h b0 b1 b2 b3)
theorem x_lis (hV : OHV c N) (hN16 : N ≤ 16) (hN : c 3 9 = (N : Int)) (h : zr sv L n 78 0 lf [] c o) (h0 : lf 0 = (4, 3)) : o = (c, some (0, (cnt (xqli c) N : Int))) := by
  obtain ⟨lf1, a0, a1, a2, h⟩ := t_lis0 h h0
  refine zloop (fun k lf g => g = c ∧ k ≤ N ∧ lf 0 = (4, 3) ∧ lf 1 = (0, (cnt (xqli c) k : Int)) ∧ lf 2 = (0, (k : Int))) _ ?_ n 0 lf1 c ⟨rfl, by omega, a0, a1, a2⟩ h
  intro n k lf g ⟨e, hk, b0, b1, b2⟩ hzk
  subst e
  have h := hzk
  have cl := cnt_le (f := xqli g) k
  by_cases hlt : k < N
  · obtain ⟨v1, v2, v3, v4, v5⟩ := hV k hlt
    rcases t_lis_s (show cnt (xqli g) k ≤ 15 by omega) v2 v3 v4 v5 (by omega) hN16 hN (show g (18 + 2 * ohp g k) (oht g k) = trh g (ohp g k) (oht g k) from rfl) v1 hlt h b0 b1 b2 with ⟨z, lf2, y0, y1, y2, h⟩ | ⟨z, lf2, y0, y1, y2, h⟩
    · have hf : xqli g k = false := bf (fun q => by
        have q := xqli_i.mp q
        omega)
      exact Or.inr ⟨lf2, _, ⟨rfl, hlt, y0, by rw [y1, cnt_n hf], by rw [y2]; exact congrArg _ (Int.add_comm _ _)⟩, h⟩
    · have hf : xqli g k = true := xqli_i.mpr (by omega)
      exact Or.inr ⟨lf2, _, ⟨rfl, hlt, y0, by rw [y1, cnt_s hf]; exact congrArg _ (Int.add_comm _ _), by rw [y2]; exact congrArg _ (Int.add_comm _ _)⟩, h⟩
  · have ek : k = N := by omega
    subst ek
    exact Or.inl (t_lis_e (by omega) hN16 hN16 hN (Nat.le_refl _) h b0 b1 b2)
theorem x_rfs (hV : OHV c N) (hN16 : N ≤ 16) (hN : c 3 9 = (N : Int)) (h : zr sv L n 77 0 lf [] c o) (h0 : lf 0 = (4, 3)) : o = (c, some (0, (cnt (xqrf c) N : Int))) := by
  obtain ⟨lf1, a0, a1, a2, h⟩ := t_rfs0 h h0
  refine zloop (fun k lf g => g = c ∧ k ≤ N ∧ lf 0 = (4, 3) ∧ lf 1 = (0, (cnt (xqrf c) k : Int)) ∧ lf 2 = (0, (k : Int))) _ ?_ n 0 lf1 c ⟨rfl, by omega, a0, a1, a2⟩ h
  intro n k lf g ⟨e, hk, b0, b1, b2⟩ hzk
  subst e
  have h := hzk
  have cl := cnt_le (f := xqrf g) k
  by_cases hlt : k < N
  · obtain ⟨v1, v2, v3, v4, v5⟩ := hV k hlt
    rcases t_rfs_s (show cnt (xqrf g) k ≤ 15 by omega) v2 v3 v4 v5 (by omega) hN16 hN v1 hlt h b0 b1 b2 with ⟨z, lf2, y0, y1, y2, h⟩ | ⟨z, lf2, y0, y1, y2, h⟩
    · have hf : xqrf g k = false := bf (fun q => by
        have q := xqrf_i.mp q
        omega)
      exact Or.inr ⟨lf2, _, ⟨rfl, hlt, y0, by rw [y1, cnt_n hf], by rw [y2]; exact congrArg _ (Int.add_comm _ _)⟩, h⟩
    · have hf : xqrf g k = true := xqrf_i.mpr (by omega)
      exact Or.inr ⟨lf2, _, ⟨rfl, hlt, y0, by rw [y1, cnt_s hf]; exact congrArg _ (Int.add_comm _ _), by rw [y2]; exact congrArg _ (Int.add_comm _ _)⟩, h⟩
  · have ek : k = N := by omega
    subst ek
    exact Or.inl (t_rfs_e (by omega) hN16 hN16 hN (Nat.le_refl _) h b0 b1 b2)
theorem x_wdo0 (hV : OHV c N) (hR : OHR c d N) (hT : ∀ k : Nat, k < N → d 254 (51 + 8 * ohp c k + oht c k) = trh c (ohp c k) (oht c k)) (hN16 : N ≤ 16) (hN : d 254 2 = (N : Int)) (hW : W ≤ 5) (h : zr sv L n 243 0 lf [] d o) (h0 : lf 0 = (4, 253)) (h1 : lf 1 = (0, (W : Int))) (h2 : lf 2 = (0, 0)) : o = (d, some (0, (cnt (xqw1 c W) N : Int))) := by
  obtain ⟨lf1, a0, a1, a2, a3, a4, h⟩ := m_wdo0_0 hW h h0 h1 h2
  refine zloop (fun k lf g => g = d ∧ k ≤ N ∧ lf 0 = (4, 253) ∧ lf 1 = (0, (W : Int)) ∧ lf 2 = (0, 0) ∧ lf 3 = (0, (cnt (xqw1 c W) k : Int)) ∧ lf 4 = (0, (k : Int))) _ ?_ n 0 lf1 d ⟨rfl, by omega, a0, a1, a2, a3, a4⟩ h
  intro n k lf g ⟨e, hk, b0, b1, b2, b3, b4⟩ hzk
  subst e
  have h := hzk
  have cl := cnt_le (f := xqw1 c W) k
  by_cases hlt : k < N
  · obtain ⟨v1, v2, v3, v4, v5⟩ := hV k hlt
    rcases m_wdo0_s hW v2 v3 v4 v5 (by omega) hN16 (show cnt (xqw1 c W) k ≤ 15 by omega) hN (hR k hlt) (hT k hlt) hlt h b0 b1 b2 b3 b4 with ⟨z, lf2, y0, y1, y2, y3, y4, h⟩ | ⟨z, lf2, y0, y1, y2, y3, y4, h⟩
    · have hf : xqw1 c W k = false := bf (fun q => by
        have q := xqw1_i.mp q
        omega)
      exact Or.inr ⟨lf2, _, ⟨rfl, hlt, y0, y1, y2, by rw [y3, cnt_n hf], by rw [y4]; exact congrArg _ (Int.add_comm _ _)⟩, h⟩
    · have hf : xqw1 c W k = true := xqw1_i.mpr (by omega)
      exact Or.inr ⟨lf2, _, ⟨rfl, hlt, y0, y1, y2, by rw [y3, cnt_s hf]; exact congrArg _ (Int.add_comm _ _), by rw [y4]; exact congrArg _ (Int.add_comm _ _)⟩, h⟩
  · have ek : k = N := by omega
    subst ek
    exact Or.inl (m_wdo0_e hW hN16 hN16 (by omega) hN (Nat.le_refl _) h b0 b1 b2 b3 b4)
theorem x_wdo1 (hV : OHV c N) (hR : OHR c d N) (hT : ∀ k : Nat, k < N → d 254 (51 + 8 * ohp c k + oht c k) = trh c (ohp c k) (oht c k)) (hN16 : N ≤ 16) (hN : d 254 2 = (N : Int)) (hW : W ≤ 5) (h : zr sv L n 243 0 lf [] d o) (h0 : lf 0 = (4, 253)) (h1 : lf 1 = (0, (W : Int))) (h2 : lf 2 = (0, 1)) : o = (d, some (0, (cnt (xqw0 c W) N : Int))) := by
  obtain ⟨lf1, a0, a1, a2, a3, a4, h⟩ := m_wdo0_1 hW h h0 h1 h2
  refine zloop (fun k lf g => g = d ∧ k ≤ N ∧ lf 0 = (4, 253) ∧ lf 1 = (0, (W : Int)) ∧ lf 2 = (0, 1) ∧ lf 3 = (0, (cnt (xqw0 c W) k : Int)) ∧ lf 4 = (0, (k : Int))) _ ?_ n 0 lf1 d ⟨rfl, by omega, a0, a1, a2, a3, a4⟩ h
  intro n k lf g ⟨e, hk, b0, b1, b2, b3, b4⟩ hzk
  subst e
  have h := hzk
  have cl := cnt_le (f := xqw0 c W) k
  by_cases hlt : k < N
  · obtain ⟨v1, v2, v3, v4, v5⟩ := hV k hlt
    rcases m_wdo1_s hW v2 v3 v4 v5 (by omega) hN16 (show cnt (xqw0 c W) k ≤ 15 by omega) hN (hR k hlt) (hT k hlt) hlt h b0 b1 b2 b3 b4 with ⟨z, lf2, y0, y1, y2, y3, y4, h⟩ | ⟨z, lf2, y0, y1, y2, y3, y4, h⟩
    · have hf : xqw0 c W k = false := bf (fun q => by
        have q := xqw0_i.mp q
        omega)
      exact Or.inr ⟨lf2, _, ⟨rfl, hlt, y0, y1, y2, by rw [y3, cnt_n hf], by rw [y4]; exact congrArg _ (Int.add_comm _ _)⟩, h⟩
    · have hf : xqw0 c W k = true := xqw0_i.mpr (by omega)
      exact Or.inr ⟨lf2, _, ⟨rfl, hlt, y0, y1, y2, by rw [y3, cnt_s hf]; exact congrArg _ (Int.add_comm _ _), by rw [y4]; exact congrArg _ (Int.add_comm _ _)⟩, h⟩
  · have ek : k = N := by omega
    subst ek
    exact Or.inl (m_wdo1_e hW hN16 hN16 (by omega) hN (Nat.le_refl _) h b0 b1 b2 b3 b4)
theorem x_wdo2 (hV : OHV c N) (hR : OHR c d N) (hT : ∀ k : Nat, k < N → d 254 (51 + 8 * ohp c k + oht c k) = trh c (ohp c k) (oht c k)) (hN16 : N ≤ 16) (hN : d 254 2 = (N : Int)) (hW : W ≤ 5) (h : zr sv L n 243 0 lf [] d o) (h0 : lf 0 = (4, 253)) (h1 : lf 1 = (0, (W : Int))) (h2 : lf 2 = (0, 2)) : o = (d, some (0, (cnt (xqw2 c W) N : Int))) := by
  obtain ⟨lf1, a0, a1, a2, a3, a4, h⟩ := m_wdo0_2 hW h h0 h1 h2
  refine zloop (fun k lf g => g = d ∧ k ≤ N ∧ lf 0 = (4, 253) ∧ lf 1 = (0, (W : Int)) ∧ lf 2 = (0, 2) ∧ lf 3 = (0, (cnt (xqw2 c W) k : Int)) ∧ lf 4 = (0, (k : Int))) _ ?_ n 0 lf1 d ⟨rfl, by omega, a0, a1, a2, a3, a4⟩ h
  intro n k lf g ⟨e, hk, b0, b1, b2, b3, b4⟩ hzk
  subst e
  have h := hzk
  have cl := cnt_le (f := xqw2 c W) k
  by_cases hlt : k < N
  · obtain ⟨v1, v2, v3, v4, v5⟩ := hV k hlt
    rcases m_wdo2_s hW v2 v3 v4 v5 (by omega) hN16 (show cnt (xqw2 c W) k ≤ 15 by omega) hN (hR k hlt) (hT k hlt) hlt h b0 b1 b2 b3 b4 with ⟨z, lf2, y0, y1, y2, y3, y4, h⟩ | ⟨z, lf2, y0, y1, y2, y3, y4, h⟩
    · have hf : xqw2 c W k = false := bf (fun q => by
        have q := xqw2_i.mp q
        omega)
      exact Or.inr ⟨lf2, _, ⟨rfl, hlt, y0, y1, y2, by rw [y3, cnt_n hf], by rw [y4]; exact congrArg _ (Int.add_comm _ _)⟩, h⟩
    · have hf : xqw2 c W k = true := xqw2_i.mpr (by omega)
      exact Or.inr ⟨lf2, _, ⟨rfl, hlt, y0, y1, y2, by rw [y3, cnt_s hf]; exact congrArg _ (Int.add_comm _ _), by rw [y4]; exact congrArg _ (Int.add_comm _ _)⟩, h⟩
  · have ek : k = N := by omega
    subst ek
    exact Or.inl (m_wdo2_e hW hN16 hN16 (by omega) hN (Nat.le_refl _) h b0 b1 b2 b3 b4)
theorem x_td0 (hV : OHV c N) (hR : OHR c d N) (hT : ∀ k : Nat, k < N → d 254 (51 + 8 * ohp c k + oht c k) = trh c (ohp c k) (oht c k)) (hN16 : N ≤ 16) (hN : d 254 2 = (N : Int)) (h : zr sv L n 280 20 lf [] d o) (h0 : lf 0 = (4, 253)) (h1 : lf 1 = (0, 0)) (h2 : lf 2 = (0, 0)) (h3 : lf 3 = (0, 0)) : o = (cup d 253 2 0, some (0, d 254 0)) := by
  refine zloop (fun k lf g => g = d ∧ k ≤ N ∧ lf 0 = (4, 253) ∧ lf 1 = (0, 0) ∧ lf 2 = (0, (cnt (xqst c 2) k : Int)) ∧ lf 3 = (0, (k : Int))) _ ?_ n 0 lf d ⟨rfl, by omega, h0, h1, h2, h3⟩ h
  intro n k lf g ⟨e, hk, b0, b1, b2, b3⟩ hzk
  subst e
  have h := hzk
  have cl := cnt_le (f := xqst c 2) k
  by_cases hlt : k < N
  · obtain ⟨v1, v2, v3, v4, v5⟩ := hV k hlt
    rcases m_td0_s v2 v3 v4 v5 (by omega) hN16 hN (hR k hlt) (hT k hlt) hlt h b0 b1 b2 b3 with ⟨z, lf2, y0, y1, y2, y3, h⟩ | ⟨z, lf2, y0, y1, y2, y3, h⟩
    · have hf : xqst c 2 k = false := bf (fun q => by
        have q := xqst_i.mp q
        omega)
      rw [w32_id (by omega) (by omega)] at y2
      exact Or.inr ⟨lf2, _, ⟨rfl, hlt, y0, y1, by rw [y2, cnt_n hf]; exact congrArg _ (Int.add_zero _), by rw [y3]; exact congrArg _ (Int.add_comm _ _)⟩, h⟩
    · have hf : xqst c 2 k = true := xqst_i.mpr (by omega)
      rw [w32_id (by omega) (by omega)] at y2
      exact Or.inr ⟨lf2, _, ⟨rfl, hlt, y0, y1, by rw [y2, cnt_s hf]; rfl, by rw [y3]; exact congrArg _ (Int.add_comm _ _)⟩, h⟩
  · have ek : k = N := by omega
    subst ek
    exact Or.inl (m_td0_e hN16 hN16 hN (Nat.le_refl _) h b0 b1 b2 b3)
theorem x_td1 (hV : OHV c N) (hR : OHR c d N) (hT : ∀ k : Nat, k < N → d 254 (51 + 8 * ohp c k + oht c k) = trh c (ohp c k) (oht c k)) (hN16 : N ≤ 16) (hN : d 254 2 = (N : Int)) (h : zr sv L n 280 20 lf [] d o) (h0 : lf 0 = (4, 253)) (h1 : lf 1 = (0, 1)) (h2 : lf 2 = (0, 0)) (h3 : lf 3 = (0, 0)) : o = (cup d 253 2 0, some (0, d 254 1)) := by
  refine zloop (fun k lf g => g = d ∧ k ≤ N ∧ lf 0 = (4, 253) ∧ lf 1 = (0, 1) ∧ lf 2 = (0, (cnt (xqst c 2) k : Int)) ∧ lf 3 = (0, (k : Int))) _ ?_ n 0 lf d ⟨rfl, by omega, h0, h1, h2, h3⟩ h
  intro n k lf g ⟨e, hk, b0, b1, b2, b3⟩ hzk
  subst e
  have h := hzk
  have cl := cnt_le (f := xqst c 2) k
  by_cases hlt : k < N
  · obtain ⟨v1, v2, v3, v4, v5⟩ := hV k hlt
    rcases m_td1_s v2 v3 v4 v5 (by omega) hN16 hN (hR k hlt) (hT k hlt) hlt h b0 b1 b2 b3 with ⟨z, lf2, y0, y1, y2, y3, h⟩ | ⟨z, lf2, y0, y1, y2, y3, h⟩
    · have hf : xqst c 2 k = false := bf (fun q => by
        have q := xqst_i.mp q
        omega)
      rw [w32_id (by omega) (by omega)] at y2
      exact Or.inr ⟨lf2, _, ⟨rfl, hlt, y0, y1, by rw [y2, cnt_n hf]; exact congrArg _ (Int.add_zero _), by rw [y3]; exact congrArg _ (Int.add_comm _ _)⟩, h⟩
    · have hf : xqst c 2 k = true := xqst_i.mpr (by omega)
      rw [w32_id (by omega) (by omega)] at y2
      exact Or.inr ⟨lf2, _, ⟨rfl, hlt, y0, y1, by rw [y2, cnt_s hf]; rfl, by rw [y3]; exact congrArg _ (Int.add_comm _ _)⟩, h⟩
  · have ek : k = N := by omega
    subst ek
    exact Or.inl (m_td1_e hN16 hN16 hN (Nat.le_refl _) h b0 b1 b2 b3)
theorem x_td2 (hV : OHV c N) (hR : OHR c d N) (hT : ∀ k : Nat, k < N → d 254 (51 + 8 * ohp c k + oht c k) = trh c (ohp c k) (oht c k)) (hN16 : N ≤ 16) (hN : d 254 2 = (N : Int)) (h : zr sv L n 280 20 lf [] d o) (h0 : lf 0 = (4, 253)) (h1 : lf 1 = (0, 2)) (h2 : lf 2 = (0, 0)) (h3 : lf 3 = (0, 0)) : o = (cup d 253 2 0, some (0, (N : Int))) := by
  refine zloop (fun k lf g => g = d ∧ k ≤ N ∧ lf 0 = (4, 253) ∧ lf 1 = (0, 2) ∧ lf 2 = (0, (cnt (xqst c 2) k : Int)) ∧ lf 3 = (0, (k : Int))) _ ?_ n 0 lf d ⟨rfl, by omega, h0, h1, h2, h3⟩ h
  intro n k lf g ⟨e, hk, b0, b1, b2, b3⟩ hzk
  subst e
  have h := hzk
  have cl := cnt_le (f := xqst c 2) k
  by_cases hlt : k < N
  · obtain ⟨v1, v2, v3, v4, v5⟩ := hV k hlt
    rcases m_td2_s v2 v3 v4 v5 (by omega) hN16 hN (hR k hlt) (hT k hlt) hlt h b0 b1 b2 b3 with ⟨z, lf2, y0, y1, y2, y3, h⟩ | ⟨z, lf2, y0, y1, y2, y3, h⟩
    · have hf : xqst c 2 k = false := bf (fun q => by
        have q := xqst_i.mp q
        omega)
      rw [w32_id (by omega) (by omega)] at y2
      exact Or.inr ⟨lf2, _, ⟨rfl, hlt, y0, y1, by rw [y2, cnt_n hf]; exact congrArg _ (Int.add_zero _), by rw [y3]; exact congrArg _ (Int.add_comm _ _)⟩, h⟩
    · have hf : xqst c 2 k = true := xqst_i.mpr (by omega)
      rw [w32_id (by omega) (by omega)] at y2
      exact Or.inr ⟨lf2, _, ⟨rfl, hlt, y0, y1, by rw [y2, cnt_s hf]; rfl, by rw [y3]; exact congrArg _ (Int.add_comm _ _)⟩, h⟩
  · have ek : k = N := by omega
    subst ek
    exact Or.inl (m_td2_e hN16 hN16 hN (Nat.le_refl _) h b0 b1 b2 b3)
theorem x_td3 (hV : OHV c N) (hR : OHR c d N) (hT : ∀ k : Nat, k < N → d 254 (51 + 8 * ohp c k + oht c k) = trh c (ohp c k) (oht c k)) (hN16 : N ≤ 16) (hN : d 254 2 = (N : Int)) (h : zr sv L n 280 20 lf [] d o) (h0 : lf 0 = (4, 253)) (h1 : lf 1 = (0, 3)) (h2 : lf 2 = (0, 0)) (h3 : lf 3 = (0, 0)) : o = (cup d 253 2 0, some (0, (cnt (xqst c 0) N : Int))) := by
  refine zloop (fun k lf g => g = d ∧ k ≤ N ∧ lf 0 = (4, 253) ∧ lf 1 = (0, 3) ∧ lf 2 = (0, (cnt (xqst c 0) k : Int)) ∧ lf 3 = (0, (k : Int))) _ ?_ n 0 lf d ⟨rfl, by omega, h0, h1, h2, h3⟩ h
  intro n k lf g ⟨e, hk, b0, b1, b2, b3⟩ hzk
  subst e
  have h := hzk
  have cl := cnt_le (f := xqst c 0) k
  by_cases hlt : k < N
  · obtain ⟨v1, v2, v3, v4, v5⟩ := hV k hlt
    rcases m_td3_s v2 v3 v4 v5 (by omega) hN16 hN (hR k hlt) (hT k hlt) hlt h b0 b1 b2 b3 with ⟨z, lf2, y0, y1, y2, y3, h⟩ | ⟨z, lf2, y0, y1, y2, y3, h⟩
    · have hf : xqst c 0 k = false := bf (fun q => by
        have q := xqst_i.mp q
        omega)
      rw [w32_id (by omega) (by omega)] at y2
      exact Or.inr ⟨lf2, _, ⟨rfl, hlt, y0, y1, by rw [y2, cnt_n hf]; exact congrArg _ (Int.add_zero _), by rw [y3]; exact congrArg _ (Int.add_comm _ _)⟩, h⟩
    · have hf : xqst c 0 k = true := xqst_i.mpr (by omega)
      rw [w32_id (by omega) (by omega)] at y2
      exact Or.inr ⟨lf2, _, ⟨rfl, hlt, y0, y1, by rw [y2, cnt_s hf]; rfl, by rw [y3]; exact congrArg _ (Int.add_comm _ _)⟩, h⟩
  · have ek : k = N := by omega
    subst ek
    exact Or.inl (m_td3_e hN16 hN16 hN (Nat.le_refl _) h b0 b1 b2 b3)
theorem x_td4 (hV : OHV c N) (hR : OHR c d N) (hT : ∀ k : Nat, k < N → d 254 (51 + 8 * ohp c k + oht c k) = trh c (ohp c k) (oht c k)) (hN16 : N ≤ 16) (hN : d 254 2 = (N : Int)) (h : zr sv L n 280 20 lf [] d o) (h0 : lf 0 = (4, 253)) (h1 : lf 1 = (0, 4)) (h2 : lf 2 = (0, 0)) (h3 : lf 3 = (0, 0)) : o = (cup d 253 2 0, some (0, (cnt (xqli c) N : Int))) := by
  refine zloop (fun k lf g => g = d ∧ k ≤ N ∧ lf 0 = (4, 253) ∧ lf 1 = (0, 4) ∧ lf 2 = (0, (cnt (xqli c) k : Int)) ∧ lf 3 = (0, (k : Int))) _ ?_ n 0 lf d ⟨rfl, by omega, h0, h1, h2, h3⟩ h
  intro n k lf g ⟨e, hk, b0, b1, b2, b3⟩ hzk
  subst e
  have h := hzk
  have cl := cnt_le (f := xqli c) k
  by_cases hlt : k < N
  · obtain ⟨v1, v2, v3, v4, v5⟩ := hV k hlt
    rcases m_td4_s v2 v3 v4 v5 (by omega) hN16 hN (hR k hlt) (hT k hlt) hlt h b0 b1 b2 b3 with ⟨z, lf2, y0, y1, y2, y3, h⟩ | ⟨z, lf2, y0, y1, y2, y3, h⟩
    · have hf : xqli c k = false := bf (fun q => by
        have q := xqli_i.mp q
        omega)
      rw [w32_id (by omega) (by omega)] at y2
      exact Or.inr ⟨lf2, _, ⟨rfl, hlt, y0, y1, by rw [y2, cnt_n hf]; exact congrArg _ (Int.add_zero _), by rw [y3]; exact congrArg _ (Int.add_comm _ _)⟩, h⟩
    · have hf : xqli c k = true := xqli_i.mpr (by omega)
      rw [w32_id (by omega) (by omega)] at y2
      exact Or.inr ⟨lf2, _, ⟨rfl, hlt, y0, y1, by rw [y2, cnt_s hf]; rfl, by rw [y3]; exact congrArg _ (Int.add_comm _ _)⟩, h⟩
  · have ek : k = N := by omega
    subst ek
    exact Or.inl (m_td4_e hN16 hN16 hN (Nat.le_refl _) h b0 b1 b2 b3)
theorem x_td5 (hV : OHV c N) (hR : OHR c d N) (hT : ∀ k : Nat, k < N → d 254 (51 + 8 * ohp c k + oht c k) = trh c (ohp c k) (oht c k)) (hN16 : N ≤ 16) (hN : d 254 2 = (N : Int)) (h : zr sv L n 280 20 lf [] d o) (h0 : lf 0 = (4, 253)) (h1 : lf 1 = (0, 5)) (h2 : lf 2 = (0, 0)) (h3 : lf 3 = (0, 0)) : o = (cup d 253 2 0, some (0, (cnt (xqst c 1) N : Int))) := by
  refine zloop (fun k lf g => g = d ∧ k ≤ N ∧ lf 0 = (4, 253) ∧ lf 1 = (0, 5) ∧ lf 2 = (0, (cnt (xqst c 1) k : Int)) ∧ lf 3 = (0, (k : Int))) _ ?_ n 0 lf d ⟨rfl, by omega, h0, h1, h2, h3⟩ h
  intro n k lf g ⟨e, hk, b0, b1, b2, b3⟩ hzk
  subst e
  have h := hzk
  have cl := cnt_le (f := xqst c 1) k
  by_cases hlt : k < N
  · obtain ⟨v1, v2, v3, v4, v5⟩ := hV k hlt
    rcases m_td5_s v2 v3 v4 v5 (by omega) hN16 hN (hR k hlt) (hT k hlt) hlt h b0 b1 b2 b3 with ⟨z, lf2, y0, y1, y2, y3, h⟩ | ⟨z, lf2, y0, y1, y2, y3, h⟩
    · have hf : xqst c 1 k = false := bf (fun q => by
        have q := xqst_i.mp q
        omega)
      rw [w32_id (by omega) (by omega)] at y2
      exact Or.inr ⟨lf2, _, ⟨rfl, hlt, y0, y1, by rw [y2, cnt_n hf]; exact congrArg _ (Int.add_zero _), by rw [y3]; exact congrArg _ (Int.add_comm _ _)⟩, h⟩
    · have hf : xqst c 1 k = true := xqst_i.mpr (by omega)
      rw [w32_id (by omega) (by omega)] at y2
      exact Or.inr ⟨lf2, _, ⟨rfl, hlt, y0, y1, by rw [y2, cnt_s hf]; rfl, by rw [y3]; exact congrArg _ (Int.add_comm _ _)⟩, h⟩
  · have ek : k = N := by omega
    subst ek
    exact Or.inl (m_td5_e hN16 hN16 hN (Nat.le_refl _) h b0 b1 b2 b3)
theorem x_td6 (hV : OHV c N) (hR : OHR c d N) (hT : ∀ k : Nat, k < N → d 254 (51 + 8 * ohp c k + oht c k) = trh c (ohp c k) (oht c k)) (hN16 : N ≤ 16) (hN : d 254 2 = (N : Int)) (hB : ∀ k : Nat, k < N → c (29 + k) 6 = 0 ∨ c (29 + k) 6 = 1) (h : zr sv L n 280 20 lf [] d o) (h0 : lf 0 = (4, 253)) (h1 : lf 1 = (0, 6)) (h2 : lf 2 = (0, 0)) (h3 : lf 3 = (0, 0)) : o = (cup d 253 2 0, some (0, (cnt (xqrf c) N : Int))) := by
  refine zloop (fun k lf g => g = d ∧ k ≤ N ∧ lf 0 = (4, 253) ∧ lf 1 = (0, 6) ∧ lf 2 = (0, (cnt (xqrf c) k : Int)) ∧ lf 3 = (0, (k : Int))) _ ?_ n 0 lf d ⟨rfl, by omega, h0, h1, h2, h3⟩ h
  intro n k lf g ⟨e, hk, b0, b1, b2, b3⟩ hzk
  subst e
  have h := hzk
  have cl := cnt_le (f := xqrf c) k
  by_cases hlt : k < N
  · obtain ⟨v1, v2, v3, v4, v5⟩ := hV k hlt
    have hb := hB k hlt
    obtain ⟨lf2, y0, y1, y2, y3, h⟩ := m_td6_s v2 v3 v4 v5 (by omega) hN16 hN (hR k hlt) (hT k hlt) hlt h b0 b1 b2 b3
    rcases hb with hb | hb <;> rw [hb, w32_id (by omega) (by omega)] at y2
    · have hf : xqrf c k = false := bf (fun q => xqrf_i.mp q hb)
      exact Or.inr ⟨lf2, _, ⟨rfl, hlt, y0, y1, by rw [y2, cnt_n hf]; exact congrArg _ (Int.add_zero _), by rw [y3]; exact congrArg _ (Int.add_comm _ _)⟩, h⟩
    · have hf : xqrf c k = true := xqrf_i.mpr (by omega)
      exact Or.inr ⟨lf2, _, ⟨rfl, hlt, y0, y1, by rw [y2, cnt_s hf]; rfl, by rw [y3]; exact congrArg _ (Int.add_comm _ _)⟩, h⟩
  · have ek : k = N := by omega
    subst ek
    exact Or.inl (m_td6_e hN16 hN16 hN (Nat.le_refl _) h b0 b1 b2 b3)
theorem x_td7 (hV : OHV c N) (hR : OHR c d N) (hT : ∀ k : Nat, k < N → d 254 (51 + 8 * ohp c k + oht c k) = trh c (ohp c k) (oht c k)) (hN16 : N ≤ 16) (hN : d 254 2 = (N : Int)) (h : zr sv L n 280 20 lf [] d o) (h0 : lf 0 = (4, 253)) (h1 : lf 1 = (0, 7)) (h2 : lf 2 = (0, 0)) (h3 : lf 3 = (0, 0)) : o = (cup d 253 2 0, some (0, (cnt (xqst c 2) N : Int))) := by
  refine zloop (fun k lf g => g = d ∧ k ≤ N ∧ lf 0 = (4, 253) ∧ lf 1 = (0, 7) ∧ lf 2 = (0, (cnt (xqst c 2) k : Int)) ∧ lf 3 = (0, (k : Int))) _ ?_ n 0 lf d ⟨rfl, by omega, h0, h1, h2, h3⟩ h
  intro n k lf g ⟨e, hk, b0, b1, b2, b3⟩ hzk
  subst e
  have h := hzk
  have cl := cnt_le (f := xqst c 2) k
  by_cases hlt : k < N
  · obtain ⟨v1, v2, v3, v4, v5⟩ := hV k hlt
    rcases m_td7_s v2 v3 v4 v5 (by omega) hN16 hN (hR k hlt) (hT k hlt) hlt h b0 b1 b2 b3 with ⟨z, lf2, y0, y1, y2, y3, h⟩ | ⟨z, lf2, y0, y1, y2, y3, h⟩
    · have hf : xqst c 2 k = false := bf (fun q => by
        have q := xqst_i.mp q
        omega)
      rw [w32_id (by omega) (by omega)] at y2
      exact Or.inr ⟨lf2, _, ⟨rfl, hlt, y0, y1, by rw [y2, cnt_n hf]; exact congrArg _ (Int.add_zero _), by rw [y3]; exact congrArg _ (Int.add_comm _ _)⟩, h⟩
    · have hf : xqst c 2 k = true := xqst_i.mpr (by omega)
      rw [w32_id (by omega) (by omega)] at y2
      exact Or.inr ⟨lf2, _, ⟨rfl, hlt, y0, y1, by rw [y2, cnt_s hf]; rfl, by rw [y3]; exact congrArg _ (Int.add_comm _ _)⟩, h⟩
  · have ek : k = N := by omega
    subst ek
    exact Or.inl (m_td7_e hN16 hN16 hN (Nat.le_refl _) h b0 b1 b2 b3)
theorem x_td8 (hV : OHV c N) (hR : OHR c d N) (hT : ∀ k : Nat, k < N → d 254 (51 + 8 * ohp c k + oht c k) = trh c (ohp c k) (oht c k)) (hN16 : N ≤ 16) (hN : d 254 2 = (N : Int)) (h : zr sv L n 280 20 lf [] d o) (h0 : lf 0 = (4, 253)) (h1 : lf 1 = (0, 8)) (h2 : lf 2 = (0, 0)) (h3 : lf 3 = (0, 0)) : o = (cup d 253 2 0, some (0, d 254 3)) := by
  refine zloop (fun k lf g => g = d ∧ k ≤ N ∧ lf 0 = (4, 253) ∧ lf 1 = (0, 8) ∧ lf 2 = (0, (cnt (xqst c 2) k : Int)) ∧ lf 3 = (0, (k : Int))) _ ?_ n 0 lf d ⟨rfl, by omega, h0, h1, h2, h3⟩ h
  intro n k lf g ⟨e, hk, b0, b1, b2, b3⟩ hzk
  subst e
  have h := hzk
  have cl := cnt_le (f := xqst c 2) k
  by_cases hlt : k < N
  · obtain ⟨v1, v2, v3, v4, v5⟩ := hV k hlt
    rcases m_td8_s v2 v3 v4 v5 (by omega) hN16 hN (hR k hlt) (hT k hlt) hlt h b0 b1 b2 b3 with ⟨z, lf2, y0, y1, y2, y3, h⟩ | ⟨z, lf2, y0, y1, y2, y3, h⟩
    · have hf : xqst c 2 k = false := bf (fun q => by
        have q := xqst_i.mp q
        omega)
      rw [w32_id (by omega) (by omega)] at y2
      exact Or.inr ⟨lf2, _, ⟨rfl, hlt, y0, y1, by rw [y2, cnt_n hf]; exact congrArg _ (Int.add_zero _), by rw [y3]; exact congrArg _ (Int.add_comm _ _)⟩, h⟩
    · have hf : xqst c 2 k = true := xqst_i.mpr (by omega)
      rw [w32_id (by omega) (by omega)] at y2
      exact Or.inr ⟨lf2, _, ⟨rfl, hlt, y0, y1, by rw [y2, cnt_s hf]; rfl, by rw [y3]; exact congrArg _ (Int.add_comm _ _)⟩, h⟩
  · have ek : k = N := by omega
    subst ek
    exact Or.inl (m_td8_e hN16 hN16 hN (Nat.le_refl _) h b0 b1 b2 b3)
theorem x_td9 (hV : OHV c N) (hR : OHR c d N) (hT : ∀ k : Nat, k < N → d 254 (51 + 8 * ohp c k + oht c k) = trh c (ohp c k) (oht c k)) (hN16 : N ≤ 16) (hN : d 254 2 = (N : Int)) (h : zr sv L n 280 20 lf [] d o) (h0 : lf 0 = (4, 253)) (h1 : lf 1 = (0, 9)) (h2 : lf 2 = (0, 0)) (h3 : lf 3 = (0, 0)) : o = (cup d 253 2 0, some (0, d 254 4)) := by
  refine zloop (fun k lf g => g = d ∧ k ≤ N ∧ lf 0 = (4, 253) ∧ lf 1 = (0, 9) ∧ lf 2 = (0, (cnt (xqst c 2) k : Int)) ∧ lf 3 = (0, (k : Int))) _ ?_ n 0 lf d ⟨rfl, by omega, h0, h1, h2, h3⟩ h
  intro n k lf g ⟨e, hk, b0, b1, b2, b3⟩ hzk
  subst e
  have h := hzk
  have cl := cnt_le (f := xqst c 2) k
  by_cases hlt : k < N
  · obtain ⟨v1, v2, v3, v4, v5⟩ := hV k hlt
    rcases m_td9_s v2 v3 v4 v5 (by omega) hN16 hN (hR k hlt) (hT k hlt) hlt h b0 b1 b2 b3 with ⟨z, lf2, y0, y1, y2, y3, h⟩ | ⟨z, lf2, y0, y1, y2, y3, h⟩
    · have hf : xqst c 2 k = false := bf (fun q => by
        have q := xqst_i.mp q
        omega)
      rw [w32_id (by omega) (by omega)] at y2
      exact Or.inr ⟨lf2, _, ⟨rfl, hlt, y0, y1, by rw [y2, cnt_n hf]; exact congrArg _ (Int.add_zero _), by rw [y3]; exact congrArg _ (Int.add_comm _ _)⟩, h⟩
    · have hf : xqst c 2 k = true := xqst_i.mpr (by omega)
      rw [w32_id (by omega) (by omega)] at y2
      exact Or.inr ⟨lf2, _, ⟨rfl, hlt, y0, y1, by rw [y2, cnt_s hf]; rfl, by rw [y3]; exact congrArg _ (Int.add_comm _ _)⟩, h⟩
  · have ek : k = N := by omega
    subst ek
    exact Or.inl (m_td9_e hN16 hN16 hN (Nat.le_refl _) h b0 b1 b2 b3)
theorem x_td10 (hV : OHV c N) (hR : OHR c d N) (hT : ∀ k : Nat, k < N → d 254 (51 + 8 * ohp c k + oht c k) = trh c (ohp c k) (oht c k)) (hN16 : N ≤ 16) (hN : d 254 2 = (N : Int)) (h : zr sv L n 280 20 lf [] d o) (h0 : lf 0 = (4, 253)) (h1 : lf 1 = (0, 10)) (h2 : lf 2 = (0, 0)) (h3 : lf 3 = (0, 0)) : o = (cup d 253 2 0, some (0, d 254 5)) := by
  refine zloop (fun k lf g => g = d ∧ k ≤ N ∧ lf 0 = (4, 253) ∧ lf 1 = (0, 10) ∧ lf 2 = (0, (cnt (xqst c 2) k : Int)) ∧ lf 3 = (0, (k : Int))) _ ?_ n 0 lf d ⟨rfl, by omega, h0, h1, h2, h3⟩ h
  intro n k lf g ⟨e, hk, b0, b1, b2, b3⟩ hzk
  subst e
  have h := hzk
  have cl := cnt_le (f := xqst c 2) k
  by_cases hlt : k < N
  · obtain ⟨v1, v2, v3, v4, v5⟩ := hV k hlt
    rcases m_td10_s v2 v3 v4 v5 (by omega) hN16 hN (hR k hlt) (hT k hlt) hlt h b0 b1 b2 b3 with ⟨z, lf2, y0, y1, y2, y3, h⟩ | ⟨z, lf2, y0, y1, y2, y3, h⟩
    · have hf : xqst c 2 k = false := bf (fun q => by
        have q := xqst_i.mp q
        omega)
      rw [w32_id (by omega) (by omega)] at y2
      exact Or.inr ⟨lf2, _, ⟨rfl, hlt, y0, y1, by rw [y2, cnt_n hf]; exact congrArg _ (Int.add_zero _), by rw [y3]; exact congrArg _ (Int.add_comm _ _)⟩, h⟩
    · have hf : xqst c 2 k = true := xqst_i.mpr (by omega)
      rw [w32_id (by omega) (by omega)] at y2
      exact Or.inr ⟨lf2, _, ⟨rfl, hlt, y0, y1, by rw [y2, cnt_s hf]; rfl, by rw [y3]; exact congrArg _ (Int.add_comm _ _)⟩, h⟩
  · have ek : k = N := by omega
    subst ek
    exact Or.inl (m_td10_e hN16 hN16 hN (Nat.le_refl _) h b0 b1 b2 b3)
theorem x_td11 (hV : OHV c N) (hR : OHR c d N) (hT : ∀ k : Nat, k < N → d 254 (51 + 8 * ohp c k + oht c k) = trh c (ohp c k) (oht c k)) (hN16 : N ≤ 16) (hN : d 254 2 = (N : Int)) (h : zr sv L n 280 20 lf [] d o) (h0 : lf 0 = (4, 253)) (h1 : lf 1 = (0, 11)) (h2 : lf 2 = (0, 0)) (h3 : lf 3 = (0, 0)) : o = (cup d 253 2 0, some (0, d 254 6)) := by
  refine zloop (fun k lf g => g = d ∧ k ≤ N ∧ lf 0 = (4, 253) ∧ lf 1 = (0, 11) ∧ lf 2 = (0, (cnt (xqst c 2) k : Int)) ∧ lf 3 = (0, (k : Int))) _ ?_ n 0 lf d ⟨rfl, by omega, h0, h1, h2, h3⟩ h
  intro n k lf g ⟨e, hk, b0, b1, b2, b3⟩ hzk
  subst e
  have h := hzk
  have cl := cnt_le (f := xqst c 2) k
  by_cases hlt : k < N
  · obtain ⟨v1, v2, v3, v4, v5⟩ := hV k hlt
    rcases m_td11_s v2 v3 v4 v5 (by omega) hN16 hN (hR k hlt) (hT k hlt) hlt h b0 b1 b2 b3 with ⟨z, lf2, y0, y1, y2, y3, h⟩ | ⟨z, lf2, y0, y1, y2, y3, h⟩
    · have hf : xqst c 2 k = false := bf (fun q => by
        have q := xqst_i.mp q
        omega)
      rw [w32_id (by omega) (by omega)] at y2
      exact Or.inr ⟨lf2, _, ⟨rfl, hlt, y0, y1, by rw [y2, cnt_n hf]; exact congrArg _ (Int.add_zero _), by rw [y3]; exact congrArg _ (Int.add_comm _ _)⟩, h⟩
    · have hf : xqst c 2 k = true := xqst_i.mpr (by omega)
      rw [w32_id (by omega) (by omega)] at y2
      exact Or.inr ⟨lf2, _, ⟨rfl, hlt, y0, y1, by rw [y2, cnt_s hf]; rfl, by rw [y3]; exact congrArg _ (Int.add_comm _ _)⟩, h⟩
  · have ek : k = N := by omega
    subst ek
    exact Or.inl (m_td11_e hN16 hN16 hN (Nat.le_refl _) h b0 b1 b2 b3)
def spf (c : cg) (W : Nat) : Nat → Int
  | 0 => 0
  | k + 1 => if ohw c k = W ∧ c (29 + k) 6 = 0 then w32 (spf c W k + c (29 + k) 4) else spf c W k
theorem spf_y {k : Nat} (h : ohw c k = W ∧ c (29 + k) 6 = 0) : spf c W (k + 1) = w32 (spf c W k + c (29 + k) 4) := if_pos h
theorem spf_n {k : Nat} (h : ¬ (ohw c k = W ∧ c (29 + k) 6 = 0)) : spf c W (k + 1) = spf c W k := if_neg h
theorem spf_w : ∀ k : Nat, w32 (spf c W k + 0) = spf c W k
  | 0 => by
    show w32 (0 + 0) = 0
    decide
  | k + 1 => by
    by_cases h : ohw c k = W ∧ c (29 + k) 6 = 0
    · rw [spf_y h]
      generalize spf c W k + c (29 + k) 4 = x
      unfold w32
      omega
    · rw [spf_n h]
      exact spf_w k
theorem x_spb (hV : OHV c N) (hN16 : N ≤ 16) (hN : c 3 9 = (N : Int)) (hW : W ≤ 5) (h : zr sv L n 82 0 lf [] c o) (h0 : lf 0 = (4, 3)) (h1 : lf 1 = (0, (W : Int))) : o = (c, some (0, spf c W N)) := by
  obtain ⟨lf1, a0, a1, a2, a3, h⟩ := t_spb0 hW h h0 h1
  refine zloop (fun k lf g => g = c ∧ k ≤ N ∧ lf 0 = (4, 3) ∧ lf 1 = (0, (W : Int)) ∧ lf 2 = (0, spf c W k) ∧ lf 3 = (0, (k : Int))) _ ?_ n 0 lf1 c ⟨rfl, by omega, a0, a1, a2, a3⟩ h
  intro n k lf g ⟨e, hk, b0, b1, b2, b3⟩ hzk
  subst e
  have h := hzk
  by_cases hlt : k < N
  · obtain ⟨v1, v2, v3, v4, v5⟩ := hV k hlt
    rcases t_spb_s hW v2 v3 v4 v5 (by omega) hN16 hN v1 hlt h b0 b1 b2 b3 with ⟨z, lf2, y0, y1, y2, y3, h⟩ | ⟨z, lf2, y0, y1, y2, y3, h⟩
    · exact Or.inr ⟨lf2, _, ⟨rfl, hlt, y0, y1, by rw [y2, spf_n (by omega)], by rw [y3]; exact congrArg _ (Int.add_comm _ _)⟩, h⟩
    · exact Or.inr ⟨lf2, _, ⟨rfl, hlt, y0, y1, by rw [y2, spf_y (by omega)], by rw [y3]; exact congrArg _ (Int.add_comm _ _)⟩, h⟩
  · have ek : k = N := by omega
    subst ek
    exact Or.inl (t_spb_e hW hN16 hN16 hN (Nat.le_refl _) h b0 b1 b2 b3)
theorem x_pe4 (hV : OHV c N) (hR : OHR c d N) (hB : ∀ k : Nat, k < N → c (29 + k) 6 = 0 ∨ c (29 + k) 6 = 1) (hN16 : N ≤ 16) (hN : d 254 2 = (N : Int)) (hW : W ≤ 5) (h : zr sv L n 284 23 lf [] d o) (h0 : lf 0 = (4, 253)) (h1 : lf 1 = (0, (W : Int))) (h2 : lf 2 = (0, 4)) : o = (cup d 253 2 0, some (0, (cnt (xqsw c W) N : Int))) := by
  obtain ⟨lf1, a0, a1, a2, a3, a4, a5, h⟩ := m_pe23_4 hW h h0 h1 h2
  refine zloop (fun k lf g => g = d ∧ k ≤ N ∧ lf 0 = (4, 253) ∧ lf 1 = (0, (W : Int)) ∧ lf 2 = (0, 4) ∧ lf 3 = (0, (cnt (xqsw c W) k : Int)) ∧ lf 4 = (0, spf c W k) ∧ lf 5 = (0, (k : Int))) _ ?_ n 0 lf1 d ⟨rfl, by omega, a0, a1, a2, a3, a4, a5⟩ h
  intro n k lf g ⟨e, hk, b0, b1, b2, b3, b4, b5⟩ hzk
  subst e
  have h := hzk
  have cl := cnt_le (f := xqsw c W) k
  by_cases hlt : k < N
  · obtain ⟨v1, v2, v3, v4, v5⟩ := hV k hlt
    have hb := hB k hlt
    rcases m_pe4_s hW v2 v3 v4 v5 (by omega) hN16 (show cnt (xqsw c W) k ≤ 15 by omega) hN (hR k hlt) hlt h b0 b1 b2 b3 b4 b5 with ⟨z, lf2, y0, y1, y2, y3, y4, y5, h⟩ | ⟨z, lf2, y0, y1, y2, y3, y4, y5, h⟩ | ⟨z, lf2, y0, y1, y2, y3, y4, y5, h⟩
    · have hf : xqsw c W k = true := xqsw_i.mpr (by omega)
      exact Or.inr ⟨lf2, _, ⟨rfl, hlt, y0, y1, y2, by rw [y3, cnt_s hf]; exact congrArg _ (Int.add_comm _ _), by rw [y4, spf_y (by omega)], by rw [y5]; exact congrArg _ (Int.add_comm _ _)⟩, h⟩
    · have hf : xqsw c W k = true := xqsw_i.mpr (by omega)
      rw [spf_w] at y4
      exact Or.inr ⟨lf2, _, ⟨rfl, hlt, y0, y1, y2, by rw [y3, cnt_s hf]; exact congrArg _ (Int.add_comm _ _), by rw [y4, spf_n (by omega)], by rw [y5]; exact congrArg _ (Int.add_comm _ _)⟩, h⟩
    · have hf : xqsw c W k = false := bf (fun q => by
        have q := xqsw_i.mp q
        omega)
      exact Or.inr ⟨lf2, _, ⟨rfl, hlt, y0, y1, y2, by rw [y3, cnt_n hf], by rw [y4, spf_n (by omega)], by rw [y5]; exact congrArg _ (Int.add_comm _ _)⟩, h⟩
  · have ek : k = N := by omega
    subst ek
    exact Or.inl (m_pe4_e hW hN16 hN16 (by omega) hN (Nat.le_refl _) h b0 b1 b2 b3 b4 b5)
theorem x_pe5 (hV : OHV c N) (hR : OHR c d N) (hB : ∀ k : Nat, k < N → c (29 + k) 6 = 0 ∨ c (29 + k) 6 = 1) (hN16 : N ≤ 16) (hN : d 254 2 = (N : Int)) (hW : W ≤ 5) (h : zr sv L n 284 23 lf [] d o) (h0 : lf 0 = (4, 253)) (h1 : lf 1 = (0, (W : Int))) (h2 : lf 2 = (0, 5)) : o = (cup d 253 2 0, some (0, spf c W N)) := by
  obtain ⟨lf1, a0, a1, a2, a3, a4, a5, h⟩ := m_pe23_5 hW h h0 h1 h2
  refine zloop (fun k lf g => g = d ∧ k ≤ N ∧ lf 0 = (4, 253) ∧ lf 1 = (0, (W : Int)) ∧ lf 2 = (0, 5) ∧ lf 3 = (0, (cnt (xqsw c W) k : Int)) ∧ lf 4 = (0, spf c W k) ∧ lf 5 = (0, (k : Int))) _ ?_ n 0 lf1 d ⟨rfl, by omega, a0, a1, a2, a3, a4, a5⟩ h
  intro n k lf g ⟨e, hk, b0, b1, b2, b3, b4, b5⟩ hzk
  subst e
  have h := hzk
  have cl := cnt_le (f := xqsw c W) k
  by_cases hlt : k < N
  · obtain ⟨v1, v2, v3, v4, v5⟩ := hV k hlt
    have hb := hB k hlt
    rcases m_pe5_s hW v2 v3 v4 v5 (by omega) hN16 (show cnt (xqsw c W) k ≤ 15 by omega) hN (hR k hlt) hlt h b0 b1 b2 b3 b4 b5 with ⟨z, lf2, y0, y1, y2, y3, y4, y5, h⟩ | ⟨z, lf2, y0, y1, y2, y3, y4, y5, h⟩ | ⟨z, lf2, y0, y1, y2, y3, y4, y5, h⟩
    · have hf : xqsw c W k = true := xqsw_i.mpr (by omega)
      exact Or.inr ⟨lf2, _, ⟨rfl, hlt, y0, y1, y2, by rw [y3, cnt_s hf]; exact congrArg _ (Int.add_comm _ _), by rw [y4, spf_y (by omega)], by rw [y5]; exact congrArg _ (Int.add_comm _ _)⟩, h⟩
    · have hf : xqsw c W k = true := xqsw_i.mpr (by omega)
      rw [spf_w] at y4
      exact Or.inr ⟨lf2, _, ⟨rfl, hlt, y0, y1, y2, by rw [y3, cnt_s hf]; exact congrArg _ (Int.add_comm _ _), by rw [y4, spf_n (by omega)], by rw [y5]; exact congrArg _ (Int.add_comm _ _)⟩, h⟩
    · have hf : xqsw c W k = false := bf (fun q => by
        have q := xqsw_i.mp q
        omega)
      exact Or.inr ⟨lf2, _, ⟨rfl, hlt, y0, y1, y2, by rw [y3, cnt_n hf], by rw [y4, spf_n (by omega)], by rw [y5]; exact congrArg _ (Int.add_comm _ _)⟩, h⟩
  · have ek : k = N := by omega
    subst ek
    exact Or.inl (m_pe5_e hW hN16 hN16 (by omega) hN (Nat.le_refl _) h b0 b1 b2 b3 b4 b5)
theorem wrd_op (hC : CT c d np nq N) (hG : GD c np nq N) (h : zr sv L n 353 0 lf [] c (c', some (0, r))) (h0 : lf 0 = (4, 0)) (h1 : lf 1 = (0, a)) (h2 : lf 2 = (0, b)) (h' : zr sv L n' 354 0 lf' [] d (d', some (0, r'))) (h0' : lf' 0 = (4, 253)) (h1' : lf' 1 = (0, a)) (h2' : lf' 2 = (0, b)) : r = r' ∧ OPR c' d' np nq c d := by
  obtain ⟨⟨h5, h6, hN⟩, ⟨c0, c3, c9⟩, ⟨d0, d1, d2⟩, ⟨t3, t4, t5, t6⟩, -, hS, -⟩ := id hC
  have hV := hG.hv h5 h6
  have hR := hC.hr hG
  have hT : ∀ k : Nat, k < N → d 254 (51 + 8 * ohp c k + oht c k) = trh c (ohp c k) (oht c k) := fun k hk => by
    obtain ⟨-, l0, l1, l2, l3⟩ := (hG.2.2.2.1 k hk).v h5 h6
    exact (hS _ l1).2 _ l3
  have hB : ∀ k : Nat, k < N → c (29 + k) 6 = 0 ∨ c (29 + k) 6 = 1 := fun k hk => (hG.2.2.2.1 k hk).2.2.2.2.2.2.1
  rcases t_wd0 h h0 h1 h2 with ⟨z, o⟩ | ⟨z, g1, r1, k1, o⟩ | ⟨z, g1, r1, k1, o⟩ | ⟨z, g1, r1, k1, o⟩
  · rcases m_wd0 h' h0' h1' h2' with ⟨z', o'⟩ | ⟨z', -⟩
    · obtain ⟨u1, u2⟩ := oI o
      obtain ⟨v1, v2⟩ := oI o'
      exact ⟨by omega, opr_st hC hG u1 v1⟩
    · exfalso; omega
  · rcases m_wd0 h' h0' h1' h2' with ⟨z', -⟩ | ⟨z', g2, r2, k2, o'⟩
    · exfalso; omega
    · obtain ⟨W, rfl⟩ : ∃ W : Nat, a = (W : Int) := ⟨a.toNat, by omega⟩
      rw [z.2.2] at k2
      obtain ⟨y1, y2⟩ := oI (x_stb1 hV hN c9 (show W ≤ 5 by omega) k1 rfl rfl rfl)
      obtain ⟨v1, v2⟩ := oI (x_wdo0 hV hR hT hN d2 (show W ≤ 5 by omega) k2 rfl rfl rfl)
      obtain ⟨u1, u2⟩ := oI o
      obtain ⟨w1, w2⟩ := oI o'
      rw [y1] at u1
      rw [v1] at w1
      exact ⟨by rw [u2, w2, y2, v2], opr_st hC hG u1 w1⟩
  · rcases m_wd0 h' h0' h1' h2' with ⟨z', -⟩ | ⟨z', g2, r2, k2, o'⟩
    · exfalso; omega
    · obtain ⟨W, rfl⟩ : ∃ W : Nat, a = (W : Int) := ⟨a.toNat, by omega⟩
      rw [z.2.2] at k2
      obtain ⟨y1, y2⟩ := oI (x_stb0 hV hN c9 (show W ≤ 5 by omega) k1 rfl rfl rfl)
      obtain ⟨v1, v2⟩ := oI (x_wdo1 hV hR hT hN d2 (show W ≤ 5 by omega) k2 rfl rfl rfl)
      obtain ⟨u1, u2⟩ := oI o
      obtain ⟨w1, w2⟩ := oI o'
      rw [y1] at u1
      rw [v1] at w1
      exact ⟨by rw [u2, w2, y2, v2], opr_st hC hG u1 w1⟩
  · rcases m_wd0 h' h0' h1' h2' with ⟨z', -⟩ | ⟨z', g2, r2, k2, o'⟩
    · exfalso; omega
    · obtain ⟨W, rfl⟩ : ∃ W : Nat, a = (W : Int) := ⟨a.toNat, by omega⟩
      rw [z.2.2] at k2
      obtain ⟨y1, y2⟩ := oI (x_vdb hV hN c9 (show W ≤ 5 by omega) k1 rfl rfl)
      obtain ⟨v1, v2⟩ := oI (x_wdo2 hV hR hT hN d2 (show W ≤ 5 by omega) k2 rfl rfl rfl)
      obtain ⟨u1, u2⟩ := oI o
      obtain ⟨w1, w2⟩ := oI o'
      rw [y1] at u1
      rw [v1] at w1
      exact ⟨by rw [u2, w2, y2, v2], opr_st hC hG u1 w1⟩
theorem oth_op (hC : CT c d np nq N) (hG : GD c np nq N) (h : zr sv L n 291 0 lf [] c (c', some (0, r))) (h0 : lf 0 = (4, 0)) (h1 : lf 1 = (0, a)) (h2 : lf 2 = (0, b)) (h' : zr sv L n' 292 0 lf' [] d (d', some (0, r'))) (h0' : lf' 0 = (4, 253)) (h1' : lf' 1 = (0, a)) (h2' : lf' 2 = (0, b)) : r = r' ∧ OPR c' d' np nq c d := by
  obtain ⟨⟨h5, h6, hN⟩, ⟨c0, c3, c9⟩, ⟨d0, d1, d2⟩, ⟨t3, t4, t5, t6⟩, -, hS, -⟩ := id hC
  have hV := hG.hv h5 h6
  have hR := hC.hr hG
  have hT : ∀ k : Nat, k < N → d 254 (51 + 8 * ohp c k + oht c k) = trh c (ohp c k) (oht c k) := fun k hk => by
    obtain ⟨-, l0, l1, l2, l3⟩ := (hG.2.2.2.1 k hk).v h5 h6
    exact (hS _ l1).2 _ l3
  have hB : ∀ k : Nat, k < N → c (29 + k) 6 = 0 ∨ c (29 + k) 6 = 1 := fun k hk => (hG.2.2.2.1 k hk).2.2.2.2.2.2.1
  rcases t_oa0 h h0 h1 h2 with ⟨z, o⟩ | ⟨z, lf2, y0, y1, y2, h⟩
  · rcases m_oa0 h' h0' h1' h2' with ⟨z', o'⟩ | ⟨z', -⟩
    · obtain ⟨u1, u2⟩ := oI o
      obtain ⟨v1, v2⟩ := oI o'
      exact ⟨by omega, opr_st hC hG u1 v1⟩
    · exfalso; omega
  · obtain ⟨K, rfl⟩ : ∃ K : Nat, a = (K : Int) := ⟨a.toNat, by omega⟩
    have hK : K < N := by omega
    obtain ⟨v1, v2, v3, v4, v5⟩ := hV K hK
    have hb := hB K hK
    have F := t_oa17 v2 v3 v4 v5 (show K ≤ 15 by omega) v1 (show c (18 + 2 * ohp c K) (oht c K) = trh c (ohp c K) (oht c K) from rfl) h y0 y1 y2
    have Z : ∀ {x : Int} {y z : Int} (o : (c', (some (0, r) : Option cv)) = (cup c 0 0 y, some (0, x))) (o' : (d', (some (0, r') : Option cv)) = (cup d 253 2 z, some (0, x))), r = r' ∧ OPR c' d' np nq c d := fun o o' => by
      obtain ⟨u1, u2⟩ := oI o
      obtain ⟨w1, w2⟩ := oI o'
      exact ⟨u2.trans w2.symm, opr_st hC hG u1 w1⟩
    rcases m_oa0 h' h0' h1' h2' with ⟨z', o'⟩ | ⟨z', lf3, x0, x1, x2, h'⟩
    · rcases F with ⟨w, -⟩ | ⟨w, -⟩ | ⟨w, -⟩ | ⟨w, -⟩ | ⟨w, -⟩ | ⟨w, -⟩ | ⟨w, -⟩ | ⟨w, -⟩ | ⟨-, o⟩
      iterate 8 (exfalso; omega)
      exact Z o o'
    · rcases F with ⟨w, o⟩ | ⟨w, o⟩ | ⟨w, o⟩ | ⟨w, o⟩ | ⟨w, o⟩ | ⟨w, o⟩ | ⟨w, o⟩ | ⟨w, o⟩ | ⟨w, -⟩
      · rw [w] at x2
        exact Z o (m_oa24_0 v2 v3 v4 v5 (show K ≤ 15 by omega) (hR K hK) (hT K hK) h' x0 x1 x2)
      · rw [w] at x2
        exact Z o (m_oa24_1 v2 v3 v4 v5 (show K ≤ 15 by omega) (hR K hK) (hT K hK) h' x0 x1 x2)
      · rw [w] at x2
        exact Z o (m_oa24_2 v2 v3 v4 v5 (show K ≤ 15 by omega) (hR K hK) (hT K hK) h' x0 x1 x2)
      · rw [w] at x2
        exact Z o (m_oa24_3 v2 v3 v4 v5 (show K ≤ 15 by omega) (hR K hK) (hT K hK) h' x0 x1 x2)
      · rw [w] at x2
        exact Z o (m_oa24_4 v2 v3 v4 v5 (show K ≤ 15 by omega) (hR K hK) (hT K hK) h' x0 x1 x2)
      · rw [w] at x2
        exact Z o (m_oa24_5 v2 v3 v4 v5 (show K ≤ 15 by omega) (hR K hK) (hT K hK) h' x0 x1 x2)
      · rcases w with ⟨w, w1⟩ | ⟨w, w1⟩
        · rw [w] at x2
          rw [← w1] at o
          exact Z o (m_oa24_6 v2 v3 v4 v5 (show K ≤ 15 by omega) (hR K hK) (hT K hK) h' x0 x1 x2)
        · rw [w] at x2
          rcases m_oa24_7 v2 v3 v4 v5 (show K ≤ 15 by omega) (hR K hK) (hT K hK) h' x0 x1 x2 with ⟨w2, o'⟩ | ⟨w2, o'⟩
          · exact Z o o'
          · exact absurd w2 w1
      · rcases w with ⟨w, w1⟩ | ⟨w, w1⟩
        · rw [w] at x2
          have e1 : c (29 + K) 6 = 1 := by omega
          rw [← e1] at o
          exact Z o (m_oa24_6 v2 v3 v4 v5 (show K ≤ 15 by omega) (hR K hK) (hT K hK) h' x0 x1 x2)
        · rw [w] at x2
          rcases m_oa24_7 v2 v3 v4 v5 (show K ≤ 15 by omega) (hR K hK) (hT K hK) h' x0 x1 x2 with ⟨w2, o'⟩ | ⟨w2, o'⟩
          · exact absurd w1 w2
          · exact Z o o'
      · exfalso; omega
theorem prs_op (hC : CT c d np nq N) (hG : GD c np nq N) (h : zr sv L n 283 0 lf [] c (c', some (0, r))) (h0 : lf 0 = (4, 0)) (h1 : lf 1 = (0, a)) (h2 : lf 2 = (0, b)) (h' : zr sv L n' 284 0 lf' [] d (d', some (0, r'))) (h0' : lf' 0 = (4, 253)) (h1' : lf' 1 = (0, a)) (h2' : lf' 2 = (0, b)) : r = r' ∧ OPR c' d' np nq c d := by
  obtain ⟨⟨h5, h6, hN⟩, ⟨c0, c3, c9⟩, ⟨d0, d1, d2⟩, ⟨t3, t4, t5, t6⟩, -, hS, -⟩ := id hC
  have hV := hG.hv h5 h6
  have hR := hC.hr hG
  have hT : ∀ k : Nat, k < N → d 254 (51 + 8 * ohp c k + oht c k) = trh c (ohp c k) (oht c k) := fun k hk => by
    obtain ⟨-, l0, l1, l2, l3⟩ := (hG.2.2.2.1 k hk).v h5 h6
    exact (hS _ l1).2 _ l3
  have hB : ∀ k : Nat, k < N → c (29 + k) 6 = 0 ∨ c (29 + k) 6 = 1 := fun k hk => (hG.2.2.2.1 k hk).2.2.2.2.2.2.1
  rcases t_pe0 h h0 h1 h2 with ⟨z, o⟩ | ⟨z, lf2, y0, y1, y2, h⟩
  · rcases m_pe0 h' h0' h1' h2' with ⟨z', o'⟩ | ⟨z', -⟩
    · obtain ⟨u1, u2⟩ := oI o
      obtain ⟨v1, v2⟩ := oI o'
      exact ⟨by omega, opr_st hC hG u1 v1⟩
    · exfalso; omega
  · obtain ⟨A, rfl⟩ : ∃ A : Nat, a = (A : Int) := ⟨a.toNat, by omega⟩
    have hA : A < nq := by omega
    obtain ⟨⟨p1, p2, p3, p4, -⟩, -⟩ := hS A hA
    obtain ⟨g2, g3, -⟩ := hG.2.2.1 A hA
    have F := t_pe17 (show A ≤ 5 by omega) (pu := c (17 + 2 * A) 1) (ch := c (17 + 2 * A) 2) (bi := c (17 + 2 * A) 3) (tw := c (17 + 2 * A) 4) rfl rfl rfl rfl h y0 y1 y2
    have Z : ∀ {x : Int} {y z : Int} (o : (c', (some (0, r) : Option cv)) = (cup c 0 0 y, some (0, x))) (o' : (d', (some (0, r') : Option cv)) = (cup d 253 2 z, some (0, x))), r = r' ∧ OPR c' d' np nq c d := fun o o' => by
      obtain ⟨u1, u2⟩ := oI o
      obtain ⟨w1, w2⟩ := oI o'
      exact ⟨u2.trans w2.symm, opr_st hC hG u1 w1⟩
    rcases m_pe0 h' h0' h1' h2' with ⟨z', o'⟩ | ⟨z', lf3, x0, x1, x2, h'⟩
    · rcases F with ⟨w, -⟩ | ⟨w, -⟩ | ⟨w, -⟩ | ⟨w, -⟩ | ⟨w, -⟩ | ⟨w, -⟩ | ⟨w, -⟩ | ⟨-, o⟩
      iterate 7 (exfalso; omega)
      exact Z o o'
    · rcases F with ⟨w, o⟩ | ⟨w, o⟩ | ⟨w, o⟩ | ⟨w, o⟩ | ⟨w, o⟩ | ⟨w, g1, r1, k1, o⟩ | ⟨w, g1, r1, k1, o⟩ | ⟨w, -⟩
      · rw [w] at x2
        exact Z o (m_pe23_0 (show A ≤ 5 by omega) p1 p2 p3 p4 h' x0 x1 x2)
      · rcases w with ⟨w, w1⟩ | ⟨w, w1⟩ <;> rw [w] at x2 <;> rw [← w1] at o
        · exact Z o (m_pe23_1 (show A ≤ 5 by omega) p1 p2 p3 p4 h' x0 x1 x2)
        · exact Z o (m_pe23_2 (show A ≤ 5 by omega) p1 p2 p3 p4 h' x0 x1 x2)
      · rcases w with ⟨w, w1⟩ | ⟨w, w1⟩ <;> rw [w] at x2
        · have e1 : c (17 + 2 * A) 2 = 1 := by omega
          rw [← e1] at o
          exact Z o (m_pe23_1 (show A ≤ 5 by omega) p1 p2 p3 p4 h' x0 x1 x2)
        · have e1 : c (17 + 2 * A) 3 = 1 := by omega
          rw [← e1] at o
          exact Z o (m_pe23_2 (show A ≤ 5 by omega) p1 p2 p3 p4 h' x0 x1 x2)
      · rw [w.1] at x2
        rcases m_pe23_3 (show A ≤ 5 by omega) p1 p2 p3 p4 h' x0 x1 x2 with ⟨w2, o'⟩ | ⟨w2, o'⟩
        · exact Z o o'
        · exact absurd w2 w.2
      · rw [w.1] at x2
        rcases m_pe23_3 (show A ≤ 5 by omega) p1 p2 p3 p4 h' x0 x1 x2 with ⟨w2, o'⟩ | ⟨w2, o'⟩
        · exact absurd w.2 w2
        · exact Z o o'
      · rw [w] at x2
        obtain ⟨s1, s2⟩ := oI (x_swb hV hN c9 (show A ≤ 5 by omega) k1 rfl rfl)
        rw [s1, s2] at o
        exact Z o (x_pe4 hV hR hB hN d2 (show A ≤ 5 by omega) h' x0 x1 x2)
      · rw [w] at x2
        obtain ⟨s1, s2⟩ := oI (x_spb hV hN c9 (show A ≤ 5 by omega) k1 rfl rfl)
        rw [s1, s2] at o
        exact Z o (x_pe5 hV hR hB hN d2 (show A ≤ 5 by omega) h' x0 x1 x2)
      · exfalso; omega
theorem tld_op (hC : CT c d np nq N) (hG : GD c np nq N) (h : zr sv L n 279 0 lf [] c (c', some (0, r))) (h0 : lf 0 = (4, 0)) (h1 : lf 1 = (0, a)) (h' : zr sv L n' 280 0 lf' [] d (d', some (0, r'))) (h0' : lf' 0 = (4, 253)) (h1' : lf' 1 = (0, a)) : r = r' ∧ OPR c' d' np nq c d := by
  obtain ⟨⟨h5, h6, hN⟩, ⟨c0, c3, c9⟩, ⟨d0, d1, d2⟩, ⟨t3, t4, t5, t6⟩, -, hS, -⟩ := id hC
  have hV := hG.hv h5 h6
  have hR := hC.hr hG
  have hT : ∀ k : Nat, k < N → d 254 (51 + 8 * ohp c k + oht c k) = trh c (ohp c k) (oht c k) := fun k hk => by
    obtain ⟨-, l0, l1, l2, l3⟩ := (hG.2.2.2.1 k hk).v h5 h6
    exact (hS _ l1).2 _ l3
  have hB : ∀ k : Nat, k < N → c (29 + k) 6 = 0 ∨ c (29 + k) 6 = 1 := fun k hk => (hG.2.2.2.1 k hk).2.2.2.2.2.2.1
  have Z : ∀ {x : Int} {y z : Int} (o : (c', (some (0, r) : Option cv)) = (cup c 0 0 y, some (0, x))) (o' : (d', (some (0, r') : Option cv)) = (cup d 253 2 z, some (0, x))), r = r' ∧ OPR c' d' np nq c d := fun o o' => by
    obtain ⟨u1, u2⟩ := oI o
    obtain ⟨w1, w2⟩ := oI o'
    exact ⟨u2.trans w2.symm, opr_st hC hG u1 w1⟩
  have F := t_td0 h h0 h1
  rcases m_td0 h' h0' h1' with ⟨z', o'⟩ | ⟨z', lf3, x0, x1, x2, x3, h'⟩
  · rcases F with ⟨w, -⟩ | ⟨w, -⟩ | ⟨w, -⟩ | ⟨w, -⟩ | ⟨w, -⟩ | ⟨w, -⟩ | ⟨w, -⟩ | ⟨w, -⟩ | ⟨w, -⟩ | ⟨w, -⟩ | ⟨w, -⟩ | ⟨w, -⟩ | ⟨-, o⟩
    iterate 12 (exfalso; omega)
    exact Z o o'
  · rcases F with ⟨w, o⟩ | ⟨w, o⟩ | ⟨w, o⟩ | ⟨w, g1, r1, k1, o⟩ | ⟨w, g1, r1, k1, o⟩ | ⟨w, g1, r1, k1, o⟩ | ⟨w, g1, r1, k1, o⟩ | ⟨w, g1, r1, k1, o⟩ | ⟨w, o⟩ | ⟨w, o⟩ | ⟨w, o⟩ | ⟨w, o⟩ | ⟨w, -⟩
    · rw [w] at x1
      rw [c0.trans d0.symm] at o
      exact Z o (x_td0 hV hR hT hN d2 h' x0 x1 x2 x3)
    · rw [w] at x1
      rw [c3.trans d1.symm] at o
      exact Z o (x_td1 hV hR hT hN d2 h' x0 x1 x2 x3)
    · rw [w] at x1
      rw [c9] at o
      exact Z o (x_td2 hV hR hT hN d2 h' x0 x1 x2 x3)
    · rw [w] at x1
      obtain ⟨s1, s2⟩ := oI (x_ins0 hV hN c9 k1 rfl rfl)
      rw [s1, s2] at o
      exact Z o (x_td3 hV hR hT hN d2 h' x0 x1 x2 x3)
    · rw [w] at x1
      obtain ⟨s1, s2⟩ := oI (x_lis hV hN c9 k1 rfl)
      rw [s1, s2] at o
      exact Z o (x_td4 hV hR hT hN d2 h' x0 x1 x2 x3)
    · rw [w] at x1
      obtain ⟨s1, s2⟩ := oI (x_ins1 hV hN c9 k1 rfl rfl)
      rw [s1, s2] at o
      exact Z o (x_td5 hV hR hT hN d2 h' x0 x1 x2 x3)
    · rw [w] at x1
      obtain ⟨s1, s2⟩ := oI (x_rfs hV hN c9 k1 rfl)
      rw [s1, s2] at o
      exact Z o (x_td6 hV hR hT hN d2 hB h' x0 x1 x2 x3)
    · rw [w] at x1
      obtain ⟨s1, s2⟩ := oI (x_ins2 hV hN c9 k1 rfl rfl)
      rw [s1, s2] at o
      exact Z o (x_td7 hV hR hT hN d2 h' x0 x1 x2 x3)
    · rw [w] at x1
      rw [t3.symm] at o
      exact Z o (x_td8 hV hR hT hN d2 h' x0 x1 x2 x3)
    · rw [w] at x1
      rw [t4.symm] at o
      exact Z o (x_td9 hV hR hT hN d2 h' x0 x1 x2 x3)
    · rw [w] at x1
      rw [t5.symm] at o
      exact Z o (x_td10 hV hR hT hN d2 h' x0 x1 x2 x3)
    · rw [w] at x1
      rw [t6.symm] at o
      exact Z o (x_td11 hV hR hT hN d2 h' x0 x1 x2 x3)
    · exfalso; omega
theorem bor66 : ∀ m : Nat, m < 64 → ∀ f : Nat, f < 64 → bor (m : Int) (f : Int) = ((m ||| f : Nat) : Int) ∧ m ||| f < 64 := by decide +kernel
def kfr (c : cg) (k : Nat) : Nat := (c (17 + 2 * k) 5).toNat
/-- one round of who knows whom -/
def kin1 (c : cg) (m : Nat) : Nat → Nat
  | 0 => m
  | k + 1 => cond ((kin1 c m k).testBit k) (kin1 c m k ||| kfr c k) (kin1 c m k)
def kinr (c : cg) (N m : Nat) : Nat → Nat
  | 0 => m
  | y + 1 => kin1 c (kinr c N m y) N
theorem kin1_t {m k : Nat} (h : (kin1 c m k).testBit k = true) : kin1 c m (k + 1) = kin1 c m k ||| kfr c k := by
  show cond ((kin1 c m k).testBit k) _ _ = _
  rw [h]; rfl
theorem kin1_f {m k : Nat} (h : (kin1 c m k).testBit k = false) : kin1 c m (k + 1) = kin1 c m k := by
  show cond ((kin1 c m k).testBit k) _ _ = _
  rw [h]; rfl
theorem kin1_lt {m N : Nat} (hF : ∀ k : Nat, k < N → kfr c k < 64) (hm : m < 64) : ∀ k : Nat, k ≤ N → kin1 c m k < 64
  | 0, _ => hm
  | k + 1, hk => by
    have q := kin1_lt hF hm k (by omega)
    cases h : (kin1 c m k).testBit k with
    | true => rw [kin1_t h]; exact (bor66 _ q _ (hF k (by omega))).2
    | false => rw [kin1_f h]; exact q
theorem kinr_lt {m N : Nat} (hF : ∀ k : Nat, k < N → kfr c k < 64) (hm : m < 64) : ∀ y : Nat, kinr c N m y < 64
  | 0 => hm
  | y + 1 => kin1_lt hF (kinr_lt hF hm y) N (Nat.le_refl N)
theorem bsl6 : ∀ w : Nat, w < 6 → bsl 1 (w : Int) = ((2 ^ w : Nat) : Int) ∧ 2 ^ w < 64 := by decide +kernel
theorem x_kinc (hN : c 3 3 = (N : Int)) (hN6 : N ≤ 6) (hF : ∀ k : Nat, k < N → kfr c k < 64 ∧ c (17 + 2 * k) 5 = (kfr c k : Int)) (hW : W ≤ 5) (h : zr sv L n 85 0 lf [] c o) (h0 : lf 0 = (4, 3)) (h1 : lf 1 = (0, (W : Int))) : o = (c, some (0, (kinr c N (2 ^ W) 6 : Int))) := by
  have hF' : ∀ k : Nat, k < N → kfr c k < 64 := fun k hk => (hF k hk).1
  obtain ⟨b1, b2⟩ := bsl6 W (by omega)
  obtain ⟨lf1, a0, a2, a3, h⟩ := t_cir0 hW h h0 h1
  rw [b1] at a2
  refine zloop (fun y lf g => g = c ∧ y ≤ 6 ∧ lf 0 = (4, 3) ∧ lf 2 = (0, (kinr c N (2 ^ W) y : Int)) ∧ lf 3 = (0, (y : Int))) _ ?_ n 0 lf1 c ⟨rfl, by omega, a0, a2, a3⟩ h
  intro n y lf g ⟨e, hy, x0, x2, x3⟩ hzk
  subst e
  have h := hzk
  by_cases hlt : y < 6
  · obtain ⟨lf2, y0, y2, y3, y4, h⟩ := t_cir_o (show y ≤ 5 by omega) h x0 x2 x3
    refine Or.inr (zloop2 (fun k lf g' => g' = g ∧ k ≤ N ∧ lf 0 = (4, 3) ∧ lf 2 = (0, (kin1 g (kinr g N (2 ^ W) y) k : Int)) ∧ lf 3 = (0, (y : Int)) ∧ lf 4 = (0, (k : Int))) (fun n => ∃ lf' g', (g' = g ∧ y + 1 ≤ 6 ∧ lf' 0 = (4, 3) ∧ lf' 2 = (0, (kinr g N (2 ^ W) (y + 1) : Int)) ∧ lf' 3 = (0, ((y + 1 : Nat) : Int))) ∧ zr sv L n 85 6 lf' [] g' o) ?_ ?_ n 0 lf2 g ⟨rfl, by omega, y0, y2, y3, y4⟩ h)
    · intro n ⟨lf', g', a, b⟩
      exact ⟨lf', g', a, zr_m b⟩
    · intro n k lf g' ⟨e, hk, y0, y2, y3, y4⟩ hzj
      subst e
      have h := hzj
      by_cases hk2 : k < N
      · have hm := kin1_lt hF' (kinr_lt hF' b2 y) k (by omega)
        have i6 := isb6 _ hm k (by omega)
        rcases t_cir_s (show y ≤ 5 by omega) (by omega) hN6 hN (hF k hk2).2 hk2 h y0 y2 y3 y4 with ⟨z, lf3, z0, z2, z3, z4, h⟩ | ⟨z, lf3, z0, z2, z3, z4, h⟩
        · have hf : (kin1 g' (kinr g' N (2 ^ W) y) k).testBit k = false := i6.2.mp z
          exact Or.inr ⟨lf3, _, ⟨rfl, hk2, z0, by rw [z2, kin1_f hf], z3, by rw [z4]; exact congrArg _ (Int.add_comm _ _)⟩, h⟩
        · have hf : (kin1 g' (kinr g' N (2 ^ W) y) k).testBit k = true := (by
            cases hq : (kin1 g' (kinr g' N (2 ^ W) y) k).testBit k with
            | true => rfl
            | false => exact absurd (i6.2.mpr hq) z)
          rw [(bor66 _ hm _ (hF' k hk2)).1] at z2
          exact Or.inr ⟨lf3, _, ⟨rfl, hk2, z0, by rw [z2, kin1_t hf], z3, by rw [z4]; exact congrArg _ (Int.add_comm _ _)⟩, h⟩
      · have ek : k = N := by omega
        subst ek
        obtain ⟨lf3, z0, z2, z3, h⟩ := t_cir_e (show y ≤ 5 by omega) hN6 hN6 hN (Nat.le_refl _) h y0 y2 y3 y4
        exact Or.inl ⟨lf3, _, ⟨rfl, by omega, z0, z2, by rw [z3]; exact congrArg _ (Int.add_comm _ _)⟩, h⟩
  · have ek : y = 6 := by omega
    subst ek
    exact Or.inl (t_cir_x h x0 x2 x3)
theorem x_kinm (hN : d 254 1 = (N : Int)) (hN6 : N ≤ 6) (hF : ∀ k : Nat, k < N → kfr c k < 64 ∧ c (17 + 2 * k) 5 = (kfr c k : Int) ∧ d 254 (19 + 6 * k) = (kfr c k : Int)) (hW : W ≤ 5) (h : zr sv L n 288 14 lf [] d o) (h0 : lf 0 = (4, 253)) (h1 : lf 1 = (0, (W : Int))) : o = (cup d 253 2 0, some (0, (kinr c N (2 ^ W) 6 : Int))) := by
  have hF' : ∀ k : Nat, k < N → kfr c k < 64 := fun k hk => (hF k hk).1
  obtain ⟨b1, b2⟩ := bsl6 W (by omega)
  obtain ⟨lf1, a0, a2, a3, h⟩ := m_kin14 hW h h0 h1
  rw [b1] at a2
  refine zloop (fun y lf g => g = d ∧ y ≤ 6 ∧ lf 0 = (4, 253) ∧ lf 2 = (0, (kinr c N (2 ^ W) y : Int)) ∧ lf 3 = (0, (y : Int))) _ ?_ n 0 lf1 d ⟨rfl, by omega, a0, a2, a3⟩ h
  intro n y lf g ⟨e, hy, x0, x2, x3⟩ hzk
  subst e
  have h := hzk
  by_cases hlt : y < 6
  · obtain ⟨lf2, y0, y2, y3, y4, h⟩ := m_kin_o (show y ≤ 5 by omega) h x0 x2 x3
    refine Or.inr (zloop2 (fun k lf g' => g' = g ∧ k ≤ N ∧ lf 0 = (4, 253) ∧ lf 2 = (0, (kin1 c (kinr c N (2 ^ W) y) k : Int)) ∧ lf 3 = (0, (y : Int)) ∧ lf 4 = (0, (k : Int))) (fun n => ∃ lf' g', (g' = g ∧ y + 1 ≤ 6 ∧ lf' 0 = (4, 253) ∧ lf' 2 = (0, (kinr c N (2 ^ W) (y + 1) : Int)) ∧ lf' 3 = (0, ((y + 1 : Nat) : Int))) ∧ zr sv L n 288 20 lf' [] g' o) ?_ ?_ n 0 lf2 g ⟨rfl, by omega, y0, y2, y3, y4⟩ h)
    · intro n ⟨lf', g', a, b⟩
      exact ⟨lf', g', a, zr_m b⟩
    · intro n k lf g' ⟨e, hk, y0, y2, y3, y4⟩ hzj
      subst e
      have h := hzj
      by_cases hk2 : k < N
      · have hm := kin1_lt hF' (kinr_lt hF' b2 y) k (by omega)
        have i6 := isb6 _ hm k (by omega)
        rcases m_kin_s (show y ≤ 5 by omega) (by omega) hN6 hN (hF k hk2).2.2 hk2 h y0 y2 y3 y4 with ⟨z, lf3, z0, z2, z3, z4, h⟩ | ⟨z, lf3, z0, z2, z3, z4, h⟩
        · have hf : (kin1 c (kinr c N (2 ^ W) y) k).testBit k = false := (by
            cases hq : (kin1 c (kinr c N (2 ^ W) y) k).testBit k with
            | true => exact absurd (i6.1.mpr hq) z
            | false => rfl)
          exact Or.inr ⟨lf3, _, ⟨rfl, hk2, z0, by rw [z2, kin1_f hf], z3, by rw [z4]; exact congrArg _ (Int.add_comm _ _)⟩, h⟩
        · have hf : (kin1 c (kinr c N (2 ^ W) y) k).testBit k = true := i6.1.mp z
          rw [(bor66 _ hm _ (hF' k hk2)).1] at z2
          exact Or.inr ⟨lf3, _, ⟨rfl, hk2, z0, by rw [z2, kin1_t hf], z3, by rw [z4]; exact congrArg _ (Int.add_comm _ _)⟩, h⟩
      · have ek : k = N := by omega
        subst ek
        obtain ⟨lf3, z0, z2, z3, h⟩ := m_kin_e (show y ≤ 5 by omega) hN6 hN6 hN (Nat.le_refl _) h y0 y2 y3 y4
        exact Or.inl ⟨lf3, _, ⟨rfl, by omega, z0, z2, by rw [z3]; exact congrArg _ (Int.add_comm _ _)⟩, h⟩
  · have ek : y = 6 := by omega
    subst ek
    exact Or.inl (m_kin_x h x0 x2 x3)
theorem kin_op (hC : CT c d np nq N) (hG : GD c np nq N) (h : zr sv L n 287 0 lf [] c (c', some (0, r))) (h0 : lf 0 = (4, 0)) (h1 : lf 1 = (0, a)) (h' : zr sv L n' 288 0 lf' [] d (d', some (0, r'))) (h0' : lf' 0 = (4, 253)) (h1' : lf' 1 = (0, a)) : r = r' ∧ OPR c' d' np nq c d := by
  obtain ⟨⟨h5, h6, hN⟩, ⟨c0, c3, c9⟩, ⟨d0, d1, d2⟩, ⟨t3, t4, t5, t6⟩, -, hS, -⟩ := id hC
  have hV := hG.hv h5 h6
  have hR := hC.hr hG
  have hT : ∀ k : Nat, k < N → d 254 (51 + 8 * ohp c k + oht c k) = trh c (ohp c k) (oht c k) := fun k hk => by
    obtain ⟨-, l0, l1, l2, l3⟩ := (hG.2.2.2.1 k hk).v h5 h6
    exact (hS _ l1).2 _ l3
  have hB : ∀ k : Nat, k < N → c (29 + k) 6 = 0 ∨ c (29 + k) 6 = 1 := fun k hk => (hG.2.2.2.1 k hk).2.2.2.2.2.2.1
  have hF : ∀ k : Nat, k < nq → kfr c k < 64 ∧ c (17 + 2 * k) 5 = (kfr c k : Int) := fun k hk => by
    obtain ⟨m, m1, m2⟩ := (hG.2.2.1 k hk).2.2.2.1
    unfold kfr
    rw [m2]
    exact ⟨m1, rfl⟩
  rcases t_kin0 h h0 h1 with ⟨z, o⟩ | ⟨z, g1, r1, k1, o⟩
  · rcases m_kin0 h' h0' h1' with ⟨z', o'⟩ | ⟨z', -⟩
    · obtain ⟨u1, u2⟩ := oI o
      obtain ⟨v1, v2⟩ := oI o'
      exact ⟨by omega, opr_st hC hG u1 v1⟩
    · exfalso; omega
  · rcases m_kin0 h' h0' h1' with ⟨z', -⟩ | ⟨z', lf3, x0, x1, h'⟩
    · exfalso; omega
    · obtain ⟨A, rfl⟩ : ∃ A : Nat, a = (A : Int) := ⟨a.toNat, by omega⟩
      obtain ⟨y1, y2⟩ := oI (x_kinc c3 h6 hF (show A ≤ 5 by omega) k1 rfl rfl)
      obtain ⟨v1, v2⟩ := oI (x_kinm d1 h6 (fun k hk => ⟨(hF k hk).1, (hF k hk).2, ((hS k hk).1.2.2.2.2).trans (hF k hk).2⟩) (show A ≤ 5 by omega) h' x0 x1)
      obtain ⟨u1, u2⟩ := oI o
      rw [y1] at u1
      exact ⟨by rw [u2, y2, v2], opr_st hC hG u1 v1⟩
def mxv (f : Nat → Nat) : Nat → Nat
  | 0 => 0
  | k + 1 => if mxv f k < f k then f k else mxv f k
def mxi (f : Nat → Nat) : Nat → Int
  | 0 => -1
  | k + 1 => if mxv f k < f k then (k : Int) else mxi f k
theorem mx_y {f : Nat → Nat} {k : Nat} (h : mxv f k < f k) : mxv f (k + 1) = f k ∧ mxi f (k + 1) = (k : Int) := ⟨if_pos h, if_pos h⟩
theorem mx_n {f : Nat → Nat} {k : Nat} (h : ¬ mxv f k < f k) : mxv f (k + 1) = mxv f k ∧ mxi f (k + 1) = mxi f k := ⟨if_neg h, if_neg h⟩
theorem mxv_le {f : Nat → Nat} {m : Nat} (hf : ∀ k : Nat, f k ≤ m) : ∀ k : Nat, mxv f k ≤ m
  | 0 => Nat.zero_le m
  | k + 1 => by
    by_cases h : mxv f k < f k
    · rw [(mx_y h).1]; exact hf k
    · rw [(mx_n h).1]; exact mxv_le hf k
theorem mx_ok (f : Nat → Nat) : ∀ k : Nat, (mxi f k = -1 ∧ mxv f k = 0) ∨ ∃ i : Nat, i < k ∧ mxi f k = (i : Int) ∧ mxv f k = f i
  | 0 => Or.inl ⟨rfl, rfl⟩
  | k + 1 => by
    by_cases h : mxv f k < f k
    · exact Or.inr ⟨k, by omega, (mx_y h).2, (mx_y h).1⟩
    · rw [(mx_n h).1, (mx_n h).2]
      rcases mx_ok f k with q | ⟨i, i1, i2, i3⟩
      · exact Or.inl q
      · exact Or.inr ⟨i, by omega, i2, i3⟩
def lrf (c : cg) (N k : Nat) : Nat := cnt (xqw0 c k) N
def dbf (c : cg) (N k : Nat) : Nat := cnt (dbh c k N) 8
def blf (c : cg) (N P T q : Nat) : Nat := cnt (bkd c P q T (-1)) N
theorem x_lirc (hV : OHV c N) (hN16 : N ≤ 16) (hN : c 3 9 = (N : Int)) (hQ6 : Q ≤ 6) (hQ : c 3 3 = (Q : Int)) (h : zr sv L n 347 0 lf [] c o) (h0 : lf 0 = (4, 0)) : (mxi (lrf c N) Q ≠ -1 ∧ o = (cup c 0 0 0, some (0, mxi (lrf c N) Q))) ∨ (mxi (lrf c N) Q = -1 ∧ o = (cup c 0 0 6, some (0, (-1)))) := by
  obtain ⟨lf1, a0, a1, a2, a3, h⟩ := t_lir0 h h0
  refine zloop (fun k lf g => g = c ∧ k ≤ Q ∧ lf 0 = (4, 0) ∧ lf 1 = (0, (mxv (lrf c N) k : Int)) ∧ lf 2 = (0, mxi (lrf c N) k) ∧ lf 3 = (0, (k : Int))) _ ?_ n 0 lf1 c ⟨rfl, by omega, a0, a1, a2, a3⟩ h
  intro n k lf g ⟨e, hk, b0, b1, b2, b3⟩ hzk
  subst e
  have h := hzk
  have lm : mxv (lrf g N) k ≤ 16 := mxv_le (fun i => by have := cnt_le (f := xqw0 g i) N; unfold lrf; omega) k
  by_cases hlt : k < Q
  · obtain ⟨g1, r1, k1, h⟩ := t_lir_s lm (by omega) hQ6 hQ hlt h b0 b1 b2 b3
    obtain ⟨s1, s2⟩ := oI (x_stb0 hV hN16 hN (show k ≤ 5 by omega) k1 rfl rfl rfl)
    have s2 : r1 = (lrf g N k : Int) := s2
    rw [s1, s2] at h
    rcases h with ⟨z, lf2, y0, y1, y2, y3, h⟩ | ⟨z, lf2, y0, y1, y2, y3, h⟩
    · have q := mx_n (f := lrf g N) (k := k) (by omega)
      exact Or.inr ⟨lf2, _, ⟨rfl, hlt, y0, by rw [y1, q.1], by rw [y2, q.2], by rw [y3]; exact congrArg _ (Int.add_comm _ _)⟩, h⟩
    · have q := mx_y (f := lrf g N) (k := k) (by omega)
      exact Or.inr ⟨lf2, _, ⟨rfl, hlt, y0, by rw [y1, q.1], by rw [y2, q.2], by rw [y3]; exact congrArg _ (Int.add_comm _ _)⟩, h⟩
  · have ek : k = Q := by omega
    subst ek
    exact Or.inl (t_lir_e lm hQ6 hQ6 hQ (Nat.le_refl _) h b0 b1 b2 b3)
theorem x_lirm (hV : OHV c N) (hR : OHR c d N) (hT : ∀ k : Nat, k < N → d 254 (51 + 8 * ohp c k + oht c k) = trh c (ohp c k) (oht c k)) (hN16 : N ≤ 16) (hN : d 254 2 = (N : Int)) (hQ6 : Q ≤ 6) (hQ : d 254 1 = (Q : Int)) (h : zr sv L n 348 0 lf [] d o) (h0 : lf 0 = (4, 253)) : (mxi (lrf c N) Q ≠ -1 ∧ o = (cup d 253 2 0, some (0, mxi (lrf c N) Q))) ∨ (mxi (lrf c N) Q = -1 ∧ o = (cup d 253 2 6, some (0, (-1)))) := by
  obtain ⟨lf1, a0, a1, a2, h⟩ := m_lir0 h h0
  refine zloop (fun k lf g => g = d ∧ k ≤ Q ∧ lf 0 = (4, 253) ∧ lf 1 = (0, mxi (lrf c N) k) ∧ lf 2 = (0, (k : Int))) _ ?_ n 0 lf1 d ⟨rfl, by omega, a0, a1, a2⟩ h
  intro n k lf g ⟨e, hk, b0, b1, b2⟩ hzk
  subst e
  have h := hzk
  by_cases hlt : k < Q
  · obtain ⟨g1, r1, k1, h⟩ := m_lir_s (by omega) hQ6 hQ hlt h b0 b1 b2
    obtain ⟨s1, s2⟩ := oI (x_wdo1 hV hR hT hN16 hN (show k ≤ 5 by omega) k1 rfl rfl rfl)
    have s2 : r1 = (lrf c N k : Int) := s2
    rw [s1, s2] at h
    rcases mx_ok (lrf c N) k with ⟨e1, e2⟩ | ⟨i, i1, i2, i3⟩
    · rcases h with ⟨z, -⟩ | ⟨z, lf2, y0, y1, y2, h⟩ | ⟨z, lf2, y0, y1, y2, h⟩
      · exact absurd e1 z
      · have q := mx_n (f := lrf c N) (k := k) (by omega)
        exact Or.inr ⟨lf2, _, ⟨rfl, hlt, y0, by rw [y1, q.2], by rw [y2]; exact congrArg _ (Int.add_comm _ _)⟩, h⟩
      · have q := mx_y (f := lrf c N) (k := k) (by omega)
        exact Or.inr ⟨lf2, _, ⟨rfl, hlt, y0, by rw [y1, q.2], by rw [y2]; exact congrArg _ (Int.add_comm _ _)⟩, h⟩
    · rcases h with ⟨z, g2, r2, k2, h⟩ | ⟨z, -⟩ | ⟨z, -⟩
      · rw [i2] at k2
        obtain ⟨s3, s4⟩ := oI (x_wdo1 hV hR hT hN16 hN (show i ≤ 5 by omega) k2 rfl rfl rfl)
        have s4 : r2 = (lrf c N i : Int) := s4
        rw [s3, s4] at h
        rcases h with ⟨z, lf2, y0, y1, y2, h⟩ | ⟨z, lf2, y0, y1, y2, h⟩
        · have q := mx_n (f := lrf c N) (k := k) (by omega)
          exact Or.inr ⟨lf2, _, ⟨rfl, hlt, y0, by rw [y1, q.2], by rw [y2]; exact congrArg _ (Int.add_comm _ _)⟩, h⟩
        · have q := mx_y (f := lrf c N) (k := k) (by omega)
          exact Or.inr ⟨lf2, _, ⟨rfl, hlt, y0, by rw [y1, q.2], by rw [y2]; exact congrArg _ (Int.add_comm _ _)⟩, h⟩
      · exfalso; omega
      · exfalso; omega
  · have ek : k = Q := by omega
    subst ek
    exact Or.inl (m_lir_e hQ6 hQ6 hQ (Nat.le_refl _) h b0 b1 b2)
theorem lir_op (hC : CT c d np nq N) (hG : GD c np nq N) (h : zr sv L n 347 0 lf [] c (c', some (0, r))) (h0 : lf 0 = (4, 0))  (h' : zr sv L n' 348 0 lf' [] d (d', some (0, r'))) (h0' : lf' 0 = (4, 253))  : r = r' ∧ OPR c' d' np nq c d := by
  obtain ⟨⟨h5, h6, hN⟩, ⟨c0, c3, c9⟩, ⟨d0, d1, d2⟩, ⟨t3, t4, t5, t6⟩, -, hS, -⟩ := id hC
  have hV := hG.hv h5 h6
  have hR := hC.hr hG
  have hT : ∀ k : Nat, k < N → d 254 (51 + 8 * ohp c k + oht c k) = trh c (ohp c k) (oht c k) := fun k hk => by
    obtain ⟨-, l0, l1, l2, l3⟩ := (hG.2.2.2.1 k hk).v h5 h6
    exact (hS _ l1).2 _ l3
  have hB : ∀ k : Nat, k < N → c (29 + k) 6 = 0 ∨ c (29 + k) 6 = 1 := fun k hk => (hG.2.2.2.1 k hk).2.2.2.2.2.2.1
  rcases x_lirc hV hN c9 h6 c3 h h0 with ⟨z, o⟩ | ⟨z, o⟩ <;> rcases x_lirm hV hR hT hN d2 h6 d1 h' h0' with ⟨z', o'⟩ | ⟨z', o'⟩ <;> obtain ⟨u1, u2⟩ := oI o <;> obtain ⟨v1, v2⟩ := oI o'
  · exact ⟨u2.trans v2.symm, opr_st hC hG u1 v1⟩
  · exact absurd z' z
  · exact absurd z z'
  · exact ⟨u2.trans v2.symm, opr_st hC hG u1 v1⟩
theorem x_dbdc (hV : OHV c N) (hN16 : N ≤ 16) (hN : c 3 9 = (N : Int)) (hQ6 : Q ≤ 6) (hQ : c 3 3 = (Q : Int)) (h : zr sv L n 349 0 lf [] c o) (h0 : lf 0 = (4, 0)) : (mxi (dbf c N) Q ≠ -1 ∧ o = (cup c 0 0 0, some (0, mxi (dbf c N) Q))) ∨ (mxi (dbf c N) Q = -1 ∧ o = (cup c 0 0 6, some (0, (-1)))) := by
  obtain ⟨lf1, a0, a1, a2, a3, h⟩ := t_dbd0 h h0
  refine zloop (fun k lf g => g = c ∧ k ≤ Q ∧ lf 0 = (4, 0) ∧ lf 1 = (0, (mxv (dbf c N) k : Int)) ∧ lf 2 = (0, mxi (dbf c N) k) ∧ lf 3 = (0, (k : Int))) _ ?_ n 0 lf1 c ⟨rfl, by omega, a0, a1, a2, a3⟩ h
  intro n k lf g ⟨e, hk, b0, b1, b2, b3⟩ hzk
  subst e
  have h := hzk
  have lm : mxv (dbf g N) k ≤ 16 := mxv_le (fun i => by have := cnt_le (f := dbh g i N) 8; unfold dbf; omega) k
  by_cases hlt : k < Q
  · obtain ⟨g1, r1, k1, h⟩ := t_dbd_s lm (by omega) hQ6 hQ hlt h b0 b1 b2 b3
    obtain ⟨s1, s2⟩ := oI (dbo_ok hV hN16 hN (show k ≤ 5 by omega) k1 rfl rfl)
    have s2 : r1 = (dbf g N k : Int) := s2
    rw [s1, s2] at h
    rcases h with ⟨z, lf2, y0, y1, y2, y3, h⟩ | ⟨z, lf2, y0, y1, y2, y3, h⟩
    · have q := mx_n (f := dbf g N) (k := k) (by omega)
      exact Or.inr ⟨lf2, _, ⟨rfl, hlt, y0, by rw [y1, q.1], by rw [y2, q.2], by rw [y3]; exact congrArg _ (Int.add_comm _ _)⟩, h⟩
    · have q := mx_y (f := dbf g N) (k := k) (by omega)
      exact Or.inr ⟨lf2, _, ⟨rfl, hlt, y0, by rw [y1, q.1], by rw [y2, q.2], by rw [y3]; exact congrArg _ (Int.add_comm _ _)⟩, h⟩
  · have ek : k = Q := by omega
    subst ek
    exact Or.inl (t_dbd_e lm hQ6 hQ6 hQ (Nat.le_refl _) h b0 b1 b2 b3)
theorem x_dbdm (hV : OHV c N) (hR : OHR c d N) (hT : ∀ k : Nat, k < N → d 254 (51 + 8 * ohp c k + oht c k) = trh c (ohp c k) (oht c k)) (hN16 : N ≤ 16) (hN : d 254 2 = (N : Int)) (hQ6 : Q ≤ 6) (hQ : d 254 1 = (Q : Int)) (h : zr sv L n 350 0 lf [] d o) (h0 : lf 0 = (4, 253)) : (mxi (dbf c N) Q ≠ -1 ∧ o = (cup d 253 2 0, some (0, mxi (dbf c N) Q))) ∨ (mxi (dbf c N) Q = -1 ∧ o = (cup d 253 2 6, some (0, (-1)))) := by
  obtain ⟨lf1, a0, a1, a2, h⟩ := m_dbd0 h h0
  refine zloop (fun k lf g => g = d ∧ k ≤ Q ∧ lf 0 = (4, 253) ∧ lf 1 = (0, mxi (dbf c N) k) ∧ lf 2 = (0, (k : Int))) _ ?_ n 0 lf1 d ⟨rfl, by omega, a0, a1, a2⟩ h
  intro n k lf g ⟨e, hk, b0, b1, b2⟩ hzk
  subst e
  have h := hzk
  by_cases hlt : k < Q
  · obtain ⟨g1, r1, k1, h⟩ := m_dbd_s (by omega) hQ6 hQ hlt h b0 b1 b2
    obtain ⟨s1, s2⟩ := oI (m_dbt_ok (show k ≤ 5 by omega) hN16 hN hV hR k1 rfl rfl)
    have s2 : r1 = (dbf c N k : Int) := s2
    rw [s1, s2] at h
    rcases mx_ok (dbf c N) k with ⟨e1, e2⟩ | ⟨i, i1, i2, i3⟩
    · rcases h with ⟨z, -⟩ | ⟨z, lf2, y0, y1, y2, h⟩ | ⟨z, lf2, y0, y1, y2, h⟩
      · exact absurd e1 z
      · have q := mx_n (f := dbf c N) (k := k) (by omega)
        exact Or.inr ⟨lf2, _, ⟨rfl, hlt, y0, by rw [y1, q.2], by rw [y2]; exact congrArg _ (Int.add_comm _ _)⟩, h⟩
      · have q := mx_y (f := dbf c N) (k := k) (by omega)
        exact Or.inr ⟨lf2, _, ⟨rfl, hlt, y0, by rw [y1, q.2], by rw [y2]; exact congrArg _ (Int.add_comm _ _)⟩, h⟩
    · rcases h with ⟨z, g2, r2, k2, h⟩ | ⟨z, -⟩ | ⟨z, -⟩
      · rw [i2] at k2
        obtain ⟨s3, s4⟩ := oI (m_dbt_ok (show i ≤ 5 by omega) hN16 hN hV hR k2 rfl rfl)
        have s4 : r2 = (dbf c N i : Int) := s4
        rw [s3, s4] at h
        rcases h with ⟨z, lf2, y0, y1, y2, h⟩ | ⟨z, lf2, y0, y1, y2, h⟩
        · have q := mx_n (f := dbf c N) (k := k) (by omega)
          exact Or.inr ⟨lf2, _, ⟨rfl, hlt, y0, by rw [y1, q.2], by rw [y2]; exact congrArg _ (Int.add_comm _ _)⟩, h⟩
        · have q := mx_y (f := dbf c N) (k := k) (by omega)
          exact Or.inr ⟨lf2, _, ⟨rfl, hlt, y0, by rw [y1, q.2], by rw [y2]; exact congrArg _ (Int.add_comm _ _)⟩, h⟩
      · exfalso; omega
      · exfalso; omega
  · have ek : k = Q := by omega
    subst ek
    exact Or.inl (m_dbd_e hQ6 hQ6 hQ (Nat.le_refl _) h b0 b1 b2)
theorem dbd_op (hC : CT c d np nq N) (hG : GD c np nq N) (h : zr sv L n 349 0 lf [] c (c', some (0, r))) (h0 : lf 0 = (4, 0))  (h' : zr sv L n' 350 0 lf' [] d (d', some (0, r'))) (h0' : lf' 0 = (4, 253))  : r = r' ∧ OPR c' d' np nq c d := by
  obtain ⟨⟨h5, h6, hN⟩, ⟨c0, c3, c9⟩, ⟨d0, d1, d2⟩, ⟨t3, t4, t5, t6⟩, -, hS, -⟩ := id hC
  have hV := hG.hv h5 h6
  have hR := hC.hr hG
  have hT : ∀ k : Nat, k < N → d 254 (51 + 8 * ohp c k + oht c k) = trh c (ohp c k) (oht c k) := fun k hk => by
    obtain ⟨-, l0, l1, l2, l3⟩ := (hG.2.2.2.1 k hk).v h5 h6
    exact (hS _ l1).2 _ l3
  have hB : ∀ k : Nat, k < N → c (29 + k) 6 = 0 ∨ c (29 + k) 6 = 1 := fun k hk => (hG.2.2.2.1 k hk).2.2.2.2.2.2.1
  rcases x_dbdc hV hN c9 h6 c3 h h0 with ⟨z, o⟩ | ⟨z, o⟩ <;> rcases x_dbdm hV hR hT hN d2 h6 d1 h' h0' with ⟨z', o'⟩ | ⟨z', o'⟩ <;> obtain ⟨u1, u2⟩ := oI o <;> obtain ⟨v1, v2⟩ := oI o'
  · exact ⟨u2.trans v2.symm, opr_st hC hG u1 v1⟩
  · exact absurd z' z
  · exact absurd z z'
  · exact ⟨u2.trans v2.symm, opr_st hC hG u1 v1⟩
theorem x_mos (hV : OHV c N) (hN16 : N ≤ 16) (hN : c 3 9 = (N : Int)) (hQ5 : Q ≤ 5) (hQ : c 3 0 = (Q : Int)) (hP : P ≤ 5) (hT : T ≤ 7) (h : zr sv L n 126 0 lf [] c o) (h0 : lf 0 = (4, 3)) (h1 : lf 1 = (0, (P : Int))) (h2 : lf 2 = (0, (T : Int))) : o = (c, some (0, mxi (blf c N P T) Q)) := by
  obtain ⟨lf1, a0, a1, a2, a3, a4, a5, h⟩ := t_mos0 hP hT h h0 h1 h2
  refine zloop (fun k lf g => g = c ∧ k ≤ Q ∧ lf 0 = (4, 3) ∧ lf 1 = (0, (P : Int)) ∧ lf 2 = (0, (T : Int)) ∧ lf 3 = (0, (mxv (blf c N P T) k : Int)) ∧ lf 4 = (0, mxi (blf c N P T) k) ∧ lf 5 = (0, (k : Int))) _ ?_ n 0 lf1 c ⟨rfl, by omega, a0, a1, a2, a3, a4, a5⟩ h
  intro n k lf g ⟨e, hk, b0, b1, b2, b3, b4, b5⟩ hzk
  subst e
  have h := hzk
  have lm : mxv (blf g N P T) k ≤ 16 := mxv_le (fun i => by have := cnt_le (f := bkd g P i T (-1)) N; unfold blf; omega) k
  by_cases hlt : k < Q
  · obtain ⟨g1, r1, k1, h⟩ := t_mos_s hP hT lm (by omega) hQ5 hQ hlt h b0 b1 b2 b3 b4 b5
    obtain ⟨s1, s2⟩ := oI (say_ok hV hN16 hN hP (show k ≤ 4 by omega) hT k1 rfl rfl rfl rfl)
    have s2 : r1 = (blf g N P T k : Int) := s2
    rw [s1, s2] at h
    rcases h with ⟨z, lf2, y0, y1, y2, y3, y4, y5, h⟩ | ⟨z, lf2, y0, y1, y2, y3, y4, y5, h⟩
    · have q := mx_n (f := blf g N P T) (k := k) (by omega)
      exact Or.inr ⟨lf2, _, ⟨rfl, hlt, y0, y1, y2, by rw [y3, q.1], by rw [y4, q.2], by rw [y5]; exact congrArg _ (Int.add_comm _ _)⟩, h⟩
    · have q := mx_y (f := blf g N P T) (k := k) (by omega)
      exact Or.inr ⟨lf2, _, ⟨rfl, hlt, y0, y1, y2, by rw [y3, q.1], by rw [y4, q.2], by rw [y5]; exact congrArg _ (Int.add_comm _ _)⟩, h⟩
  · have ek : k = Q := by omega
    subst ek
    exact Or.inl (t_mos_e hP hT lm hQ5 hQ5 hQ (Nat.le_refl _) h b0 b1 b2 b3 b4 b5)
theorem x_blvm (hV : OHV c N) (hR : OHR c d N) (hN16 : N ≤ 16) (hN : d 254 2 = (N : Int)) (hQ5 : Q ≤ 5) (hQ : d 254 0 = (Q : Int)) (hP : P ≤ 5) (hT : T ≤ 7) (h : zr sv L n 334 21 lf [] d o) (h0 : lf 0 = (4, 253)) (h1 : lf 1 = (0, (P : Int))) (h2 : lf 2 = (0, (T : Int))) : (mxi (blf c N P T) Q ≠ -1 ∧ o = (cup d 253 2 0, some (0, mxi (blf c N P T) Q))) ∨ (mxi (blf c N P T) Q = -1 ∧ o = (cup d 253 2 6, some (0, (-1)))) := by
  obtain ⟨lf1, a0, a1, a2, a3, a4, a5, h⟩ := m_blv21 hP hT h h0 h1 h2
  refine zloop (fun k lf g => g = d ∧ k ≤ Q ∧ lf 0 = (4, 253) ∧ lf 1 = (0, (P : Int)) ∧ lf 2 = (0, (T : Int)) ∧ lf 3 = (0, mxi (blf c N P T) k) ∧ lf 4 = (0, (mxv (blf c N P T) k : Int)) ∧ lf 5 = (0, (k : Int))) _ ?_ n 0 lf1 d ⟨rfl, by omega, a0, a1, a2, a3, a4, a5⟩ h
  intro n k lf g ⟨e, hk, b0, b1, b2, b3, b4, b5⟩ hzk
  subst e
  have h := hzk
  have lm : mxv (blf c N P T) k ≤ 16 := mxv_le (fun i => by have := cnt_le (f := bkd c P i T (-1)) N; unfold blf; omega) k
  by_cases hlt : k < Q
  · obtain ⟨g1, r1, k1, h⟩ := m_blv_s hP hT lm (by omega) hQ5 hQ hlt h b0 b1 b2 b3 b4 b5
    obtain ⟨s1, s2⟩ := oI (m_bkd_ok hP (show k ≤ 4 by omega) hT hN16 hN hV hR k1 rfl rfl rfl rfl rfl)
    have s2 : r1 = (blf c N P T k : Int) := s2
    rw [s1, s2] at h
    rcases h with ⟨z, lf2, y0, y1, y2, y3, y4, y5, h⟩ | ⟨z, lf2, y0, y1, y2, y3, y4, y5, h⟩
    · have q := mx_y (f := blf c N P T) (k := k) (by omega)
      exact Or.inr ⟨lf2, _, ⟨rfl, hlt, y0, y1, y2, by rw [y3, q.2], by rw [y4, q.1], by rw [y5]; exact congrArg _ (Int.add_comm _ _)⟩, h⟩
    · have q := mx_n (f := blf c N P T) (k := k) (by omega)
      exact Or.inr ⟨lf2, _, ⟨rfl, hlt, y0, y1, y2, by rw [y3, q.2], by rw [y4, q.1], by rw [y5]; exact congrArg _ (Int.add_comm _ _)⟩, h⟩
  · have ek : k = Q := by omega
    subst ek
    exact Or.inl (m_blv_e hP hT lm hQ5 hQ5 hQ (Nat.le_refl _) h b0 b1 b2 b3 b4 b5)
theorem blv_op (hC : CT c d np nq N) (hG : GD c np nq N) (h : zr sv L n 333 0 lf [] c (c', some (0, r))) (h0 : lf 0 = (4, 0)) (h1 : lf 1 = (0, a)) (h2 : lf 2 = (0, b)) (h' : zr sv L n' 334 0 lf' [] d (d', some (0, r'))) (h0' : lf' 0 = (4, 253)) (h1' : lf' 1 = (0, a)) (h2' : lf' 2 = (0, b)) : r = r' ∧ OPR c' d' np nq c d := by
  obtain ⟨⟨h5, h6, hN⟩, ⟨c0, c3, c9⟩, ⟨d0, d1, d2⟩, ⟨t3, t4, t5, t6⟩, -, hS, -⟩ := id hC
  have hV := hG.hv h5 h6
  have hR := hC.hr hG
  have hT : ∀ k : Nat, k < N → d 254 (51 + 8 * ohp c k + oht c k) = trh c (ohp c k) (oht c k) := fun k hk => by
    obtain ⟨-, l0, l1, l2, l3⟩ := (hG.2.2.2.1 k hk).v h5 h6
    exact (hS _ l1).2 _ l3
  have hB : ∀ k : Nat, k < N → c (29 + k) 6 = 0 ∨ c (29 + k) 6 = 1 := fun k hk => (hG.2.2.2.1 k hk).2.2.2.2.2.2.1
  rcases t_blv0 h h0 h1 h2 with ⟨z, o⟩ | ⟨z, g1, r1, k1, h⟩
  · rcases m_blv0 h' h0' h1' h2' with ⟨z', o'⟩ | ⟨z', -⟩
    · obtain ⟨u1, u2⟩ := oI o
      obtain ⟨v1, v2⟩ := oI o'
      exact ⟨u2.trans v2.symm, opr_st hC hG u1 v1⟩
    · exfalso; omega
  · rcases m_blv0 h' h0' h1' h2' with ⟨z', -⟩ | ⟨z', lf3, x0, x1, x2, h'⟩
    · exfalso; omega
    · obtain ⟨A, rfl⟩ : ∃ A : Nat, a = (A : Int) := ⟨a.toNat, by omega⟩
      obtain ⟨B, rfl⟩ : ∃ B : Nat, b = (B : Int) := ⟨b.toNat, by omega⟩
      obtain ⟨s1, s2⟩ := oI (x_mos hV hN c9 h5 c0 (show A ≤ 5 by omega) (show B ≤ 7 by omega) k1 rfl rfl rfl)
      rw [s1, s2] at h
      rcases h with ⟨z1, o⟩ | ⟨z1, o⟩ <;> rcases x_blvm hV hR hN d2 h5 d0 (show A ≤ 5 by omega) (show B ≤ 7 by omega) h' x0 x1 x2 with ⟨z2, o'⟩ | ⟨z2, o'⟩ <;> obtain ⟨u1, u2⟩ := oI o <;> obtain ⟨v1, v2⟩ := oI o'
      · exact ⟨u2.trans v2.symm, opr_st hC hG u1 v1⟩
      · exact absurd z2 z1
      · exact absurd z1 z2
      · exact ⟨u2.trans v2.symm, opr_st hC hG u1 v1⟩
def syb (c : cg) (N W P T q : Nat) : Bool := decide (whys c N W P q T = 0)
def syc (c : cg) (N W P Q : Nat) : Nat → Nat
  | 0 => 0
  | T + 1 => syc c N W P Q T + cnt (syb c N W P T) Q
theorem syc_le (hQ : Q ≤ 5) : ∀ T : Nat, syc c N W P Q T ≤ 5 * T
  | 0 => Nat.le_refl 0
  | T + 1 => by
    have a := syc_le hQ T
    have b := cnt_le (f := syb c N W P T) Q
    show syc c N W P Q T + cnt (syb c N W P T) Q ≤ _
    omega
def deq (c : cg) (N W P T : Nat) (w : Int) : Nat → Int
  | 0 => w
  | k + 1 => if whys c N W P k T = 0 then (if deq c N W P T w k < fees c N W P k T then fees c N W P k T else deq c N W P T w k) else deq c N W P T w k
def deh (c : cg) (N W P Q : Nat) : Nat → Int
  | 0 => -1
  | T + 1 => deq c N W P T (deh c N W P Q T) Q
theorem deq_n {w : Int} {k : Nat} (h : whys c N W P k T ≠ 0) : deq c N W P T w (k + 1) = deq c N W P T w k := if_neg h
theorem deq_a {w : Int} {k : Nat} (h : whys c N W P k T = 0) (h2 : deq c N W P T w k < fees c N W P k T) : deq c N W P T w (k + 1) = fees c N W P k T := (if_pos h).trans (if_pos h2)
theorem deq_b {w : Int} {k : Nat} (h : whys c N W P k T = 0) (h2 : ¬ deq c N W P T w k < fees c N W P k T) : deq c N W P T w (k + 1) = deq c N W P T w k := (if_pos h).trans (if_neg h2)
theorem x_cns (hA : ASD c c' N W P) (hV : OHV c N) (hw : WOK c W) (hW : W ≤ 5) (hP : P ≤ 5) (hN16 : N ≤ 16) (hN : c 3 9 = (N : Int)) (hQ5 : Q ≤ 5) (hQ : c' 3 0 = (Q : Int)) (h : zr sv L n 133 0 lf [] c' o) (h0 : lf 0 = (4, 92)) : o = (c', some (0, (syc c N W P Q 8 : Int))) := by
  obtain ⟨lf1, a0, a1, a2, h⟩ := t_cns0 h h0
  refine zloop (fun T lf g => g = c' ∧ T ≤ 8 ∧ lf 0 = (4, 92) ∧ lf 1 = (0, (syc c N W P Q T : Int)) ∧ lf 2 = (0, (T : Int))) _ ?_ n 0 lf1 c' ⟨rfl, by omega, a0, a1, a2⟩ h
  intro n T lf g ⟨e, hT, b0, b1, b2⟩ hzk
  subst e
  have h := hzk
  have l1 := syc_le (c := c) (N := N) (W := W) (P := P) hQ5 T
  by_cases hlt : T < 8
  · obtain ⟨lf2, y0, y1, y2, y3, h⟩ := t_cns_o (show syc c N W P Q T ≤ 40 by omega) (show T ≤ 7 by omega) h b0 b1 b2
    refine Or.inr (zloop2 (fun k lf g' => g' = g ∧ k ≤ Q ∧ lf 0 = (4, 92) ∧ lf 1 = (0, ((syc c N W P Q T + cnt (syb c N W P T) k : Nat) : Int)) ∧ lf 2 = (0, (T : Int)) ∧ lf 3 = (0, (k : Int))) (fun n => ∃ lf' g', (g' = g ∧ T + 1 ≤ 8 ∧ lf' 0 = (4, 92) ∧ lf' 1 = (0, (syc c N W P Q (T + 1) : Int)) ∧ lf' 2 = (0, ((T + 1 : Nat) : Int))) ∧ zr sv L n 133 4 lf' [] g' o) ?_ ?_ n 0 lf2 g ⟨rfl, by omega, y0, y1, y2, y3⟩ h)
    · intro n ⟨lf', g', a, b⟩
      exact ⟨lf', g', a, zr_m b⟩
    · intro n k lf g' ⟨e, hk, y0, y1, y2, y3⟩ hzj
      subst e
      have h := hzj
      have l2 := cnt_le (f := syb c N W P T) k
      by_cases hk2 : k < Q
      · obtain ⟨g1, r1, k1, h⟩ := t_cns_s (show syc c N W P Q T + cnt (syb c N W P T) k ≤ 39 by omega) (show T ≤ 7 by omega) (by omega) hQ5 hQ hk2 h y0 y1 y2 y3
        obtain ⟨s1, s2⟩ := oI (hind_ok hA hV hw hW hP (show k ≤ 4 by omega) (show T ≤ 7 by omega) hN16 hN k1 rfl rfl rfl)
        rw [s1, s2] at h
        rcases h with ⟨z, lf3, z0, z1, z2, z3, h⟩ | ⟨z, lf3, z0, z1, z2, z3, h⟩
        · have hf : syb c N W P T k = false := decide_eq_false z
          exact Or.inr ⟨lf3, _, ⟨rfl, hk2, z0, by rw [z1, cnt_n hf], z2, by rw [z3]; exact congrArg _ (Int.add_comm _ _)⟩, h⟩
        · have hf : syb c N W P T k = true := decide_eq_true z
          exact Or.inr ⟨lf3, _, ⟨rfl, hk2, z0, by rw [z1, cnt_s hf]; exact congrArg (fun x : Int => ((0, x) : Nat × Int)) (by omega), z2, by rw [z3]; exact congrArg _ (Int.add_comm _ _)⟩, h⟩
      · have ek : k = Q := by omega
        subst ek
        obtain ⟨lf3, z0, z1, z2, h⟩ := t_cns_e (show syc c N W P k T + cnt (syb c N W P T) k ≤ 40 by omega) (show T ≤ 7 by omega) hQ5 hQ5 hQ (Nat.le_refl _) h y0 y1 y2 y3
        exact Or.inl ⟨lf3, _, ⟨rfl, by omega, z0, z1, by rw [z2]; exact congrArg _ (Int.add_comm _ _)⟩, h⟩
  · have ek : T = 8 := by omega
    subst ek
    exact Or.inl (t_cns_x (show syc c N W P Q 8 ≤ 40 by omega) h b0 b1 b2)
theorem x_hip (hA : ASD c c' N W P) (hV : OHV c N) (hw : WOK c W) (hW : W ≤ 5) (hP : P ≤ 5) (hN16 : N ≤ 16) (hN : c 3 9 = (N : Int)) (hQ5 : Q ≤ 5) (hQ : c' 3 0 = (Q : Int)) (h : zr sv L n 134 0 lf [] c' o) (h0 : lf 0 = (4, 92)) : o = (c', some (0, deh c N W P Q 8)) := by
  obtain ⟨lf1, a0, a1, a2, h⟩ := t_hip0 h h0
  refine zloop (fun T lf g => g = c' ∧ T ≤ 8 ∧ lf 0 = (4, 92) ∧ lf 1 = (0, deh c N W P Q T) ∧ lf 2 = (0, (T : Int))) _ ?_ n 0 lf1 c' ⟨rfl, by omega, a0, a1, a2⟩ h
  intro n T lf g ⟨e, hT, b0, b1, b2⟩ hzk
  subst e
  have h := hzk
  by_cases hlt : T < 8
  · obtain ⟨lf2, y0, y1, y2, y3, h⟩ := t_hip_o (show T ≤ 7 by omega) h b0 b1 b2
    refine Or.inr (zloop2 (fun k lf g' => g' = g ∧ k ≤ Q ∧ lf 0 = (4, 92) ∧ lf 1 = (0, deq c N W P T (deh c N W P Q T) k) ∧ lf 2 = (0, (T : Int)) ∧ lf 3 = (0, (k : Int))) (fun n => ∃ lf' g', (g' = g ∧ T + 1 ≤ 8 ∧ lf' 0 = (4, 92) ∧ lf' 1 = (0, deh c N W P Q (T + 1)) ∧ lf' 2 = (0, ((T + 1 : Nat) : Int))) ∧ zr sv L n 134 4 lf' [] g' o) ?_ ?_ n 0 lf2 g ⟨rfl, by omega, y0, y1, y2, y3⟩ h)
    · intro n ⟨lf', g', a, b⟩
      exact ⟨lf', g', a, zr_m b⟩
    · intro n k lf g' ⟨e, hk, y0, y1, y2, y3⟩ hzj
      subst e
      have h := hzj
      by_cases hk2 : k < Q
      · obtain ⟨g1, r1, k1, h⟩ := t_hip_s (show T ≤ 7 by omega) (by omega) hQ5 hQ hk2 h y0 y1 y2 y3
        obtain ⟨s1, s2⟩ := oI (hind_ok hA hV hw hW hP (show k ≤ 4 by omega) (show T ≤ 7 by omega) hN16 hN k1 rfl rfl rfl)
        rw [s1, s2] at h
        rcases h with ⟨z, lf3, z0, z1, z2, z3, h⟩ | ⟨z, g2, r2, k2, h⟩
        · exact Or.inr ⟨lf3, _, ⟨rfl, hk2, z0, by rw [z1, deq_n z], z2, by rw [z3]; exact congrArg _ (Int.add_comm _ _)⟩, h⟩
        · obtain ⟨s3, s4⟩ := oI (price_ok hA hV hw hW hP (show k ≤ 4 by omega) (show T ≤ 7 by omega) hN16 k2 rfl rfl rfl)
          rw [s3, s4] at h
          rcases h with ⟨z1_, lf3, z0, z1, z2, z3, h⟩ | ⟨z1_, lf3, z0, z1, z2, z3, h⟩
          · exact Or.inr ⟨lf3, _, ⟨rfl, hk2, z0, by rw [z1, deq_a z z1_], z2, by rw [z3]; exact congrArg _ (Int.add_comm _ _)⟩, h⟩
          · exact Or.inr ⟨lf3, _, ⟨rfl, hk2, z0, by rw [z1, deq_b z (Int.not_lt.mpr z1_)], z2, by rw [z3]; exact congrArg _ (Int.add_comm _ _)⟩, h⟩
      · have ek : k = Q := by omega
        subst ek
        obtain ⟨lf3, z0, z1, z2, h⟩ := t_hip_e (show T ≤ 7 by omega) hQ5 hQ5 hQ (Nat.le_refl _) h y0 y1 y2 y3
        exact Or.inl ⟨lf3, _, ⟨rfl, by omega, z0, z1, by rw [z2]; exact congrArg _ (Int.add_comm _ _)⟩, h⟩
  · have ek : T = 8 := by omega
    subst ek
    exact Or.inl (t_hip_x h b0 b1 b2)
theorem x_syo (hY : ∀ (n q T : Nat) (g : cg) (r : Int), q ≤ 4 → T ≤ 7 → zr sv L n 220 0 (darg 0 [(4, 253), (0, (W : Int)), (0, (P : Int)), (0, (q : Int)), (0, (T : Int))]) [] d (g, some (0, r)) → g = d ∧ r = whys c N W P q T) (hW : W ≤ 5) (hP : P ≤ 5) (hQ5 : Q ≤ 5) (hQ : d 254 0 = (Q : Int)) (h : zr sv L n 242 0 lf [] d o) (h0 : lf 0 = (4, 253)) (h1 : lf 1 = (0, (W : Int))) (h2 : lf 2 = (0, (P : Int))) : o = (d, some (0, (syc c N W P Q 8 : Int))) := by
  obtain ⟨lf1, a0, a1, a2, a3, a4, h⟩ := m_syo0 hW hP h h0 h1 h2
  refine zloop (fun T lf g => g = d ∧ T ≤ 8 ∧ lf 0 = (4, 253) ∧ lf 1 = (0, (W : Int)) ∧ lf 2 = (0, (P : Int)) ∧ lf 3 = (0, (syc c N W P Q T : Int)) ∧ lf 4 = (0, (T : Int))) _ ?_ n 0 lf1 d ⟨rfl, by omega, a0, a1, a2, a3, a4⟩ h
  intro n T lf g ⟨e, hT, b0, b1, b2, b3, b4⟩ hzk
  subst e
  have h := hzk
  have l1 := syc_le (c := c) (N := N) (W := W) (P := P) hQ5 T
  by_cases hlt : T < 8
  · obtain ⟨lf2, y0, y1, y2, y3, y4, y5, h⟩ := m_syo_o hW hP (show syc c N W P Q T ≤ 40 by omega) (show T ≤ 7 by omega) h b0 b1 b2 b3 b4
    refine Or.inr (zloop2 (fun k lf g' => g' = g ∧ k ≤ Q ∧ lf 0 = (4, 253) ∧ lf 1 = (0, (W : Int)) ∧ lf 2 = (0, (P : Int)) ∧ lf 3 = (0, ((syc c N W P Q T + cnt (syb c N W P T) k : Nat) : Int)) ∧ lf 4 = (0, (T : Int)) ∧ lf 5 = (0, (k : Int))) (fun n => ∃ lf' g', (g' = g ∧ T + 1 ≤ 8 ∧ lf' 0 = (4, 253) ∧ lf' 1 = (0, (W : Int)) ∧ lf' 2 = (0, (P : Int)) ∧ lf' 3 = (0, (syc c N W P Q (T + 1) : Int)) ∧ lf' 4 = (0, ((T + 1 : Nat) : Int))) ∧ zr sv L n 242 5 lf' [] g' o) ?_ ?_ n 0 lf2 g ⟨rfl, by omega, y0, y1, y2, y3, y4, y5⟩ h)
    · intro n ⟨lf', g', a, b⟩
      exact ⟨lf', g', a, zr_m b⟩
    · intro n k lf g' ⟨e, hk, y0, y1, y2, y3, y4, y5⟩ hzj
      subst e
      have h := hzj
      have l2 := cnt_le (f := syb c N W P T) k
      by_cases hk2 : k < Q
      · obtain ⟨g1, r1, k1, h⟩ := m_syo_s hW hP (show syc c N W P Q T + cnt (syb c N W P T) k ≤ 39 by omega) (show T ≤ 7 by omega) (by omega) hQ5 hQ hk2 h y0 y1 y2 y3 y4 y5
        obtain ⟨s1, s2⟩ := hY n k T g1 r1 (by omega) (by omega) k1
        rw [s1, s2] at h
        rcases h with ⟨z, lf3, z0, z1, z2, z3, z4, z5, h⟩ | ⟨z, lf3, z0, z1, z2, z3, z4, z5, h⟩
        · have hf : syb c N W P T k = false := decide_eq_false z
          exact Or.inr ⟨lf3, _, ⟨rfl, hk2, z0, z1, z2, by rw [z3, cnt_n hf], z4, by rw [z5]; exact congrArg _ (Int.add_comm _ _)⟩, h⟩
        · have hf : syb c N W P T k = true := decide_eq_true z
          exact Or.inr ⟨lf3, _, ⟨rfl, hk2, z0, z1, z2, by rw [z3, cnt_s hf]; exact congrArg (fun x : Int => ((0, x) : Nat × Int)) (by omega), z4, by rw [z5]; exact congrArg _ (Int.add_comm _ _)⟩, h⟩
      · have ek : k = Q := by omega
        subst ek
        obtain ⟨lf3, z0, z1, z2, z3, z4, h⟩ := m_syo_e hW hP (show syc c N W P k T + cnt (syb c N W P T) k ≤ 40 by omega) (show T ≤ 7 by omega) hQ5 hQ5 hQ (Nat.le_refl _) h y0 y1 y2 y3 y4 y5
        exact Or.inl ⟨lf3, _, ⟨rfl, by omega, z0, z1, z2, z3, by rw [z4]; exact congrArg _ (Int.add_comm _ _)⟩, h⟩
  · have ek : T = 8 := by omega
    subst ek
    exact Or.inl (m_syo_x hW hP (show syc c N W P Q 8 ≤ 40 by omega) h b0 b1 b2 b3 b4)
theorem x_dem (hZ : ∀ (n q T : Nat) (g : cg) (r : Int), q ≤ 4 → T ≤ 7 → zr sv L n 224 0 (darg 0 [(4, 253), (0, (W : Int)), (0, (P : Int)), (0, (q : Int)), (0, (T : Int))]) [] d (g, some (0, r)) → g = d ∧ r = fees c N W P q T) (hY : ∀ (n q T : Nat) (g : cg) (r : Int), q ≤ 4 → T ≤ 7 → zr sv L n 220 0 (darg 0 [(4, 253), (0, (W : Int)), (0, (P : Int)), (0, (q : Int)), (0, (T : Int))]) [] d (g, some (0, r)) → g = d ∧ r = whys c N W P q T) (hW : W ≤ 5) (hP : P ≤ 5) (hQ5 : Q ≤ 5) (hQ : d 254 0 = (Q : Int)) (h : zr sv L n 346 22 lf [] d o) (h0 : lf 0 = (4, 253)) (h1 : lf 1 = (0, (W : Int))) (h2 : lf 2 = (0, (P : Int))) : (deh c N W P Q 8 ≠ -1 ∧ o = (cup d 253 2 0, some (0, deh c N W P Q 8))) ∨ (deh c N W P Q 8 = -1 ∧ o = (cup d 253 2 6, some (0, (-1)))) := by
  obtain ⟨lf1, a0, a1, a2, a3, a4, h⟩ := m_dea22 hW hP h h0 h1 h2
  refine zloop (fun T lf g => g = d ∧ T ≤ 8 ∧ lf 0 = (4, 253) ∧ lf 1 = (0, (W : Int)) ∧ lf 2 = (0, (P : Int)) ∧ lf 3 = (0, deh c N W P Q T) ∧ lf 4 = (0, (T : Int))) _ ?_ n 0 lf1 d ⟨rfl, by omega, a0, a1, a2, a3, a4⟩ h
  intro n T lf g ⟨e, hT, b0, b1, b2, b3, b4⟩ hzk
  subst e
  have h := hzk
  by_cases hlt : T < 8
  · obtain ⟨lf2, y0, y1, y2, y3, y4, y5, h⟩ := m_dea_o hW hP (show T ≤ 7 by omega) h b0 b1 b2 b3 b4
    refine Or.inr (zloop2 (fun k lf g' => g' = g ∧ k ≤ Q ∧ lf 0 = (4, 253) ∧ lf 1 = (0, (W : Int)) ∧ lf 2 = (0, (P : Int)) ∧ lf 3 = (0, deq c N W P T (deh c N W P Q T) k) ∧ lf 4 = (0, (T : Int)) ∧ lf 5 = (0, (k : Int))) (fun n => ∃ lf' g', (g' = g ∧ T + 1 ≤ 8 ∧ lf' 0 = (4, 253) ∧ lf' 1 = (0, (W : Int)) ∧ lf' 2 = (0, (P : Int)) ∧ lf' 3 = (0, deh c N W P Q (T + 1)) ∧ lf' 4 = (0, ((T + 1 : Nat) : Int))) ∧ zr sv L n 346 27 lf' [] g' o) ?_ ?_ n 0 lf2 g ⟨rfl, by omega, y0, y1, y2, y3, y4, y5⟩ h)
    · intro n ⟨lf', g', a, b⟩
      exact ⟨lf', g', a, zr_m b⟩
    · intro n k lf g' ⟨e, hk, y0, y1, y2, y3, y4, y5⟩ hzj
      subst e
      have h := hzj
      by_cases hk2 : k < Q
      · obtain ⟨g1, r1, k1, h⟩ := m_dea_s hW hP (show T ≤ 7 by omega) (by omega) hQ5 hQ hk2 h y0 y1 y2 y3 y4 y5
        obtain ⟨s1, s2⟩ := hY n k T g1 r1 (by omega) (by omega) k1
        rw [s1, s2] at h
        rcases h with ⟨z, lf3, z0, z1, z2, z3, z4, z5, h⟩ | ⟨z, g2, r2, k2, h⟩
        · exact Or.inr ⟨lf3, _, ⟨rfl, hk2, z0, z1, z2, by rw [z3, deq_n z], z4, by rw [z5]; exact congrArg _ (Int.add_comm _ _)⟩, h⟩
        · obtain ⟨s3, s4⟩ := hZ n k T g2 r2 (by omega) (by omega) k2
          rw [s3, s4] at h
          rcases h with ⟨z1_, lf3, z0, z1, z2, z3, z4, z5, h⟩ | ⟨z1_, lf3, z0, z1, z2, z3, z4, z5, h⟩
          · exact Or.inr ⟨lf3, _, ⟨rfl, hk2, z0, z1, z2, by rw [z3, deq_a z z1_], z4, by rw [z5]; exact congrArg _ (Int.add_comm _ _)⟩, h⟩
          · exact Or.inr ⟨lf3, _, ⟨rfl, hk2, z0, z1, z2, by rw [z3, deq_b z (Int.not_lt.mpr z1_)], z4, by rw [z5]; exact congrArg _ (Int.add_comm _ _)⟩, h⟩
      · have ek : k = Q := by omega
        subst ek
        obtain ⟨lf3, z0, z1, z2, z3, z4, h⟩ := m_dea_e hW hP (show T ≤ 7 by omega) hQ5 hQ5 hQ (Nat.le_refl _) h y0 y1 y2 y3 y4 y5
        exact Or.inl ⟨lf3, _, ⟨rfl, by omega, z0, z1, z2, z3, by rw [z4]; exact congrArg _ (Int.add_comm _ _)⟩, h⟩
  · have ek : T = 8 := by omega
    subst ek
    exact Or.inl (m_dea_x hW hP h b0 b1 b2 b3 b4)
theorem syb_op (hC : CT c d np nq N) (hG : GD c np nq N) (h : zr sv L n 343 0 lf [] c (c', some (0, r))) (h0 : lf 0 = (4, 0)) (h1 : lf 1 = (0, a)) (h2 : lf 2 = (0, b)) (h' : zr sv L n' 344 0 lf' [] d (d', some (0, r'))) (h0' : lf' 0 = (4, 253)) (h1' : lf' 1 = (0, a)) (h2' : lf' 2 = (0, b)) : r = r' ∧ OPR c' d' np nq c d := by
  obtain ⟨⟨h5, h6, hN⟩, ⟨c0, c3, c9⟩, ⟨d0, d1, d2⟩, ⟨t3, t4, t5, t6⟩, -, hS, -⟩ := id hC
  have hV := hG.hv h5 h6
  have hR := hC.hr hG
  have hT : ∀ k : Nat, k < N → d 254 (51 + 8 * ohp c k + oht c k) = trh c (ohp c k) (oht c k) := fun k hk => by
    obtain ⟨-, l0, l1, l2, l3⟩ := (hG.2.2.2.1 k hk).v h5 h6
    exact (hS _ l1).2 _ l3
  have hB : ∀ k : Nat, k < N → c (29 + k) 6 = 0 ∨ c (29 + k) 6 = 1 := fun k hk => (hG.2.2.2.1 k hk).2.2.2.2.2.2.1
  rcases t_say h h0 h1 h2 with ⟨z, o⟩ | ⟨z, g1, k1, g2, r2, k2, h⟩
  · rcases m_say h' h0' h1' h2' with ⟨z', o'⟩ | ⟨z', -⟩
    · obtain ⟨u1, u2⟩ := oI o
      obtain ⟨v1, v2⟩ := oI o'
      exact ⟨u2.trans v2.symm, opr_st hC hG u1 v1⟩
    · exfalso; omega
  · rcases m_say h' h0' h1' h2' with ⟨z', -⟩ | ⟨z', g3, r3, k3, o'⟩
    · exfalso; omega
    · obtain ⟨W, rfl⟩ : ∃ W : Nat, a = (W : Int) := ⟨a.toNat, by omega⟩
      obtain ⟨P, rfl⟩ : ∃ P : Nat, b = (P : Int) := ⟨b.toNat, by omega⟩
      have hW : W < nq := by omega
      have hP : P < nq := by omega
      obtain ⟨ca, o2, hA⟩ := ask_ok (nq := nq) (by omega) (by omega) hN c9 hV hW hG.fr6 k1 rfl rfl rfl
      rw [oV o2] at k2
      obtain ⟨s1, s2⟩ := oI (x_cns hA hV (hG.2.2.1 W hW).wok (by omega) (by omega) hN c9 h5 ((hA.1.1 3 0 (by decide) (by decide) (by decide)).trans c0) k2 rfl)
      rw [s1, s2] at h
      obtain ⟨s3, s4⟩ := oI (x_syo (fun n q T g r hq hT k => oI (m_why_ok (nq := nq) (show W ≤ 5 by omega) (show P ≤ 5 by omega) hq hT hN d2 hV hR hG.2.2.2.2 hS hW hP (fun k hk => ((hG.2.2.2.1 k hk).v h5 h6).2.2.1) ⟨t3, t4⟩ k rfl rfl rfl rfl rfl)) (by omega) (by omega) h5 d0 k3 rfl rfl rfl)
      rw [s3, s4] at o'
      obtain ⟨u1, u2⟩ := oI h
      obtain ⟨v1, v2⟩ := oI o'
      exact ⟨u2.trans v2.symm, asd_op hC hG hA u1 v1⟩
theorem dea_op (hC : CT c d np nq N) (hG : GD c np nq N) (h : zr sv L n 345 0 lf [] c (c', some (0, r))) (h0 : lf 0 = (4, 0)) (h1 : lf 1 = (0, a)) (h2 : lf 2 = (0, b)) (h' : zr sv L n' 346 0 lf' [] d (d', some (0, r'))) (h0' : lf' 0 = (4, 253)) (h1' : lf' 1 = (0, a)) (h2' : lf' 2 = (0, b)) : r = r' ∧ OPR c' d' np nq c d := by
  obtain ⟨⟨h5, h6, hN⟩, ⟨c0, c3, c9⟩, ⟨d0, d1, d2⟩, ⟨t3, t4, t5, t6⟩, -, hS, -⟩ := id hC
  have hV := hG.hv h5 h6
  have hR := hC.hr hG
  have hT : ∀ k : Nat, k < N → d 254 (51 + 8 * ohp c k + oht c k) = trh c (ohp c k) (oht c k) := fun k hk => by
    obtain ⟨-, l0, l1, l2, l3⟩ := (hG.2.2.2.1 k hk).v h5 h6
    exact (hS _ l1).2 _ l3
  have hB : ∀ k : Nat, k < N → c (29 + k) 6 = 0 ∨ c (29 + k) 6 = 1 := fun k hk => (hG.2.2.2.1 k hk).2.2.2.2.2.2.1
  rcases t_dea h h0 h1 h2 with ⟨z, o⟩ | ⟨z, g1, k1, g2, r2, k2, h⟩
  · rcases m_dea0 h' h0' h1' h2' with ⟨z', o'⟩ | ⟨z', -⟩
    · obtain ⟨u1, u2⟩ := oI o
      obtain ⟨v1, v2⟩ := oI o'
      exact ⟨u2.trans v2.symm, opr_st hC hG u1 v1⟩
    · exfalso; omega
  · rcases m_dea0 h' h0' h1' h2' with ⟨z', -⟩ | ⟨z', lf3, x0, x1, x2, h'⟩
    · exfalso; omega
    · obtain ⟨W, rfl⟩ : ∃ W : Nat, a = (W : Int) := ⟨a.toNat, by omega⟩
      obtain ⟨P, rfl⟩ : ∃ P : Nat, b = (P : Int) := ⟨b.toNat, by omega⟩
      have hW : W < nq := by omega
      have hP : P < nq := by omega
      obtain ⟨ca, o2, hA⟩ := ask_ok (nq := nq) (by omega) (by omega) hN c9 hV hW hG.fr6 k1 rfl rfl rfl
      rw [oV o2] at k2
      obtain ⟨s1, s2⟩ := oI (x_hip hA hV (hG.2.2.1 W hW).wok (by omega) (by omega) hN c9 h5 ((hA.1.1 3 0 (by decide) (by decide) (by decide)).trans c0) k2 rfl)
      rw [s1, s2] at h
      rcases h with ⟨z1, o⟩ | ⟨z1, o⟩ <;> rcases x_dem (fun n q T g r hq hT k => oI (m_fee_ok (nq := nq) (show W ≤ 5 by omega) (show P ≤ 5 by omega) hq hT hN d2 hV hR hG.2.2.2.2 hS hW hP ⟨t3, t4⟩ k rfl rfl rfl rfl rfl)) (fun n q T g r hq hT k => oI (m_why_ok (nq := nq) (show W ≤ 5 by omega) (show P ≤ 5 by omega) hq hT hN d2 hV hR hG.2.2.2.2 hS hW hP (fun k hk => ((hG.2.2.2.1 k hk).v h5 h6).2.2.1) ⟨t3, t4⟩ k rfl rfl rfl rfl rfl)) (by omega) (by omega) h5 d0 h' x0 x1 x2 with ⟨z2, o'⟩ | ⟨z2, o'⟩ <;> obtain ⟨u1, u2⟩ := oI o <;> obtain ⟨v1, v2⟩ := oI o'
      · exact ⟨u2.trans v2.symm, asd_op hC hG hA u1 v1⟩
      · exact absurd z2 z1
      · exact absurd z1 z2
      · exact ⟨u2.trans v2.symm, asd_op hC hG hA u1 v1⟩
theorem fts_op (hC : CT c d np nq N) (hG : GD c np nq N) (h : zr sv L n 315 0 lf [] c (c', some (0, r))) (h0 : lf 0 = (4, 0)) (h1 : lf 1 = (0, a)) (h2 : lf 2 = (0, b)) (h' : zr sv L n' 316 0 lf' [] d (d', some (0, r'))) (h0' : lf' 0 = (4, 253)) (h1' : lf' 1 = (0, a)) (h2' : lf' 2 = (0, b)) : r = r' ∧ OPR c' d' np nq c d := by
  obtain ⟨⟨h5, h6, hN⟩, ⟨c0, c3, c9⟩, ⟨d0, d1, d2⟩, ⟨t3, t4, t5, t6⟩, hM, hS, -⟩ := id hC
  have hV := hG.hv h5 h6
  have hR := hC.hr hG
  have hT : ∀ k : Nat, k < N → d 254 (51 + 8 * ohp c k + oht c k) = trh c (ohp c k) (oht c k) := fun k hk => by
    obtain ⟨-, l0, l1, l2, l3⟩ := (hG.2.2.2.1 k hk).v h5 h6
    exact (hS _ l1).2 _ l3
  have hB : ∀ k : Nat, k < N → c (29 + k) 6 = 0 ∨ c (29 + k) 6 = 1 := fun k hk => (hG.2.2.2.1 k hk).2.2.2.2.2.2.1
  have Z : ∀ {x : Int} {y z : Int} (o : (c', (some (0, r) : Option cv)) = (cup c 0 0 y, some (0, x))) (o' : (d', (some (0, r') : Option cv)) = (cup d 253 2 z, some (0, x))), r = r' ∧ OPR c' d' np nq c d := fun o o' => by
    obtain ⟨u1, u2⟩ := oI o
    obtain ⟨w1, w2⟩ := oI o'
    exact ⟨u2.trans w2.symm, opr_st hC hG u1 w1⟩
  rcases t_fts0 h h0 h1 h2 with ⟨z, o⟩ | ⟨z, lf2, y0, y1, y2, h⟩
  · rcases m_fts0 h' h0' h1' h2' with ⟨z', o'⟩ | ⟨z', -⟩
    · exact Z o o'
    · exfalso; omega
  · rcases m_fts0 h' h0' h1' h2' with ⟨z', -⟩ | ⟨z', lf3, x0, x1, x2, h'⟩
    · exfalso; omega
    · obtain ⟨A, rfl⟩ : ∃ A : Nat, a = (A : Int) := ⟨a.toNat, by omega⟩
      obtain ⟨B, rfl⟩ : ∃ B : Nat, b = (B : Int) := ⟨b.toNat, by omega⟩
      have hA : A < N := by omega
      have hA2 : B < N := by omega
      obtain ⟨v1, v2, v3, v4, v5⟩ := hV A hA
      obtain ⟨w1, w2, w3, w4, w5⟩ := hV B hA2
      obtain ⟨-, -, -, lq, -⟩ := (hG.2.2.2.1 A hA).v h5 h6
      obtain ⟨-, -, -, lQ, -⟩ := (hG.2.2.2.1 B hA2).v h5 h6
      have rA := hR A hA
      have rB := hR B hA2
      have F := t_fts28 (show A ≤ 15 by omega) (show B ≤ 15 by omega) v3 v4 v5 w3 w4 w5 v1.2.1 v1.2.2.1 v1.2.2.2.1 w1.2.1 w1.2.2.1 w1.2.2.2.1 h y0 y1 y2
      have F' := m_fts22 (show A ≤ 15 by omega) (show B ≤ 15 by omega) v3 v4 v5 w3 w4 w5 rA.2.1 rA.2.2.1 rA.2.2.2.1 rB.2.1 rB.2.2.1 rB.2.2.2.1 h' x0 x1 x2
      rcases F with ⟨e1, o⟩ | ⟨e1, g1, r1, k1, h⟩ <;> rcases F' with ⟨e2, o'⟩ | ⟨e2, g2, r2, k2, h'⟩
      · exact Z o o'
      · exact absurd e2 e1
      · exact absurd e1 e2
      · have q := t_fit_ok v4 v5 w4 w5 rfl rfl rfl (hG.2.1 _ lq) (hG.2.1 _ lQ) hG.1.2.2 k1 rfl rfl rfl rfl rfl
        have q' := m_fit_ok v4 v5 w4 w5 (hM _ lq) (hM _ lQ) t5 (hG.2.1 _ lq) (hG.2.1 _ lQ) hG.1.2.2 k2 rfl rfl rfl rfl rfl
        rcases q with ⟨f1, o⟩ | ⟨f1, o⟩ <;> rcases q' with ⟨f2, o'⟩ | ⟨f2, o'⟩ <;> obtain ⟨s1, s2⟩ := oI o <;> obtain ⟨s3, s4⟩ := oI o' <;> rw [s1, s2] at h <;> rw [s3, s4] at h'
        · rcases h with ⟨e, -⟩ | ⟨-, o⟩
          · exact absurd e (by decide)
          · rcases h' with ⟨e, -⟩ | ⟨-, o'⟩
            · exact absurd e (by decide)
            · exact Z o o'
        · exact absurd f1 f2
        · exact absurd f2 f1
        · rcases h with ⟨-, o⟩ | ⟨e, -⟩
          · rcases h' with ⟨-, o'⟩ | ⟨e, -⟩
            · exact Z o o'
            · exact absurd rfl e
          · exact absurd rfl e
theorem fitp_s {sp x y : Int} {q t Q T : Nat} : FITP sp x y q t Q T ↔ FITP sp y x Q T q t := by
  have e1 : (x - y).natAbs = (y - x).natAbs := by omega
  have e2 : (sp * ((t : Int) - (T : Int))).natAbs = (sp * ((T : Int) - (t : Int))).natAbs := by rw [show (t : Int) - (T : Int) = -((T : Int) - (t : Int)) by omega, Int.mul_neg, Int.natAbs_neg]
  unfold FITP
  rw [e1, e2]
  omega
def upr (R : Nat → Nat → Bool) (i j : Nat) : Bool := decide (i < j) && R i j
def col (R : Nat → Nat → Bool) (j i : Nat) : Bool := R i j
theorem upr_i {R : Nat → Nat → Bool} {i j : Nat} : upr R i j = true ↔ i < j ∧ R i j = true := by
  unfold upr
  rw [Bool.and_eq_true, decide_eq_true_iff]
def smA (R : Nat → Nat → Bool) (M : Nat) : Nat → Nat
  | 0 => 0
  | i + 1 => smA R M i + cnt (upr R i) M
def smB (R : Nat → Nat → Bool) : Nat → Nat
  | 0 => 0
  | a + 1 => smB R a + cnt (col R a) a
theorem smA_le {R : Nat → Nat → Bool} {M : Nat} (hM : M ≤ 16) : ∀ i : Nat, smA R M i ≤ 16 * i
  | 0 => Nat.le_refl 0
  | i + 1 => by
    have a := smA_le (R := R) hM i
    have b := cnt_le (f := upr R i) M
    show smA R M i + cnt (upr R i) M ≤ _
    omega
theorem smB_le {R : Nat → Nat → Bool} : ∀ i : Nat, i ≤ 16 → smB R i ≤ 16 * i
  | 0, _ => Nat.le_refl 0
  | i + 1, h => by
    have a := smB_le (R := R) i (by omega)
    have b := cnt_le (f := col R i) i
    show smB R i + cnt (col R i) i ≤ _
    omega
theorem smA_0 {R : Nat → Nat → Bool} : ∀ n : Nat, smA R 0 n = 0
  | 0 => rfl
  | n + 1 => smA_0 n
theorem smA_s {R : Nat → Nat → Bool} {M : Nat} : ∀ n : Nat, smA R (M + 1) n = smA R M n + cnt (fun i => upr R i M) n
  | 0 => rfl
  | n + 1 => by
    have a := smA_s (R := R) (M := M) n
    show smA R (M + 1) n + (cnt (upr R n) M + (upr R n M).toNat) = smA R M n + cnt (upr R n) M + (cnt (fun i => upr R i M) n + (upr R n M).toNat)
    omega
theorem cnt_ov {f : Nat → Bool} {M : Nat} (h : ∀ i : Nat, M ≤ i → f i = false) : ∀ n : Nat, M ≤ n → cnt f n = cnt f M
  | 0, h0 => by rw [show M = 0 by omega]
  | n + 1, hn => by
    by_cases e : M = n + 1
    · rw [e]
    · rw [cnt_n (h n (by omega))]
      exact cnt_ov h n (by omega)
theorem smAB {R : Nat → Nat → Bool} {N : Nat} : ∀ M : Nat, M ≤ N → smA R M N = smB R M
  | 0, _ => smA_0 N
  | M + 1, h => by
    rw [smA_s, smAB M (by omega), cnt_ov (f := fun i => upr R i M) (M := M) (fun i hi => bf (fun q => by
      have := (upr_i.mp q).1
      omega)) N (by omega)]
    show _ = smB R M + cnt (col R M) M
    rw [cnt_congr (f := fun i => upr R i M) (f' := col R M) M (fun i hi => by
      show (decide (i < M) && R i M) = R i M
      rw [decide_eq_true hi, Bool.true_and])]
def clr (c : cg) (Z i j : Nat) : Bool := decide (ohs c i = 0 ∧ ohp c i = Z ∧ ohs c j = 0 ∧ ohp c j = Z) && !fitb (c 3 7) (c 4 (ohq c i)) (c 4 (ohq c j)) (ohq c i) (oht c i) (ohq c j) (oht c j)
theorem clr_i {Z i j : Nat} : clr c Z i j = true ↔ (ohs c i = 0 ∧ ohp c i = Z ∧ ohs c j = 0 ∧ ohp c j = Z) ∧ ¬ FITP (c 3 7) (c 4 (ohq c i)) (c 4 (ohq c j)) (ohq c i) (oht c i) (ohq c j) (oht c j) := by
  unfold clr
  rw [Bool.and_eq_true, decide_eq_true_iff, Bool.not_eq_true', ← fitb_i]
  constructor
  · exact fun ⟨x, y⟩ => ⟨x, fun z => by rw [y] at z; cases z⟩
  · exact fun ⟨x, y⟩ => ⟨x, bf y⟩
theorem x_clo {Z : Nat} (hV : OHV c N) (hM0 : ∀ k : Nat, k < N → 0 ≤ c 4 (ohq c k) ∧ c 4 (ohq c k) ≤ 60) (hs0 : 0 ≤ c 3 7 ∧ c 3 7 ≤ 60) (hN16 : N ≤ 16) (hN : c 3 9 = (N : Int)) (hZ : Z ≤ 5) (h : zr sv L n 123 0 lf [] c o) (h0 : lf 0 = (4, 3)) (h1 : lf 1 = (0, (Z : Int))) : o = (c, some (0, (smA (clr c Z) N N : Int))) := by
  obtain ⟨lf1, a0, a1, a2, a3, h⟩ := t_clo0 hZ h h0 h1
  refine zloop (fun k lf g => g = c ∧ k ≤ N ∧ lf 0 = (4, 3) ∧ lf 1 = (0, (Z : Int)) ∧ lf 2 = (0, (smA (clr c Z) N k : Int)) ∧ lf 3 = (0, (k : Int))) _ ?_ n 0 lf1 c ⟨rfl, by omega, a0, a1, a2, a3⟩ h
  intro n k lf g ⟨e, hk, b0, b1, b2, b3⟩ hzk
  subst e
  have h := hzk
  have l1 := smA_le (R := clr g Z) hN16 k
  by_cases hlt : k < N
  · obtain ⟨lf2, y0, y1, y2, y3, y4, h⟩ := t_clo_o hZ (show smA (clr g Z) N k ≤ 300 by omega) (by omega) hN16 hN hlt h b0 b1 b2 b3
    have z0 : cnt (upr (clr g Z) k) (k + 1) = 0 := cnt_0 (fun i hi => bf (fun q => by
      have := (upr_i.mp q).1
      omega))
    refine Or.inr (zloop2 (fun j lf g' => g' = g ∧ (k < j ∧ j ≤ N) ∧ lf 0 = (4, 3) ∧ lf 1 = (0, (Z : Int)) ∧ lf 2 = (0, ((smA (clr g Z) N k + cnt (upr (clr g Z) k) j : Nat) : Int)) ∧ lf 3 = (0, (k : Int)) ∧ lf 4 = (0, (j : Int))) (fun n => ∃ lf' g', (g' = g ∧ k + 1 ≤ N ∧ lf' 0 = (4, 3) ∧ lf' 1 = (0, (Z : Int)) ∧ lf' 2 = (0, (smA (clr g Z) N (k + 1) : Int)) ∧ lf' 3 = (0, ((k + 1 : Nat) : Int))) ∧ zr sv L n 123 4 lf' [] g' o) ?_ ?_ n (k + 1) lf2 g ⟨rfl, ⟨by omega, by omega⟩, y0, y1, by rw [y2, z0]; rfl, y3, by rw [y4]; exact congrArg _ (Int.add_comm _ _)⟩ h)
    · intro n ⟨lf', g', a, b⟩
      exact ⟨lf', g', a, zr_m b⟩
    · intro n j lf g' ⟨e, ⟨hkj, hj⟩, y0, y1, y2, y3, y4⟩ hzj
      subst e
      have h := hzj
      have l2 := cnt_le (f := upr (clr g' Z) k) j
      by_cases hj2 : j < N
      · obtain ⟨v1, v2, v3, v4, v5⟩ := hV k hlt
        obtain ⟨w1, w2, w3, w4, w5⟩ := hV j hj2
        rcases t_clo_s (show k ≤ 15 by omega) (show j ≤ 15 by omega) hN16 (show smA (clr g' Z) N k + cnt (upr (clr g' Z) k) j ≤ 300 by omega) hZ v3 v4 v5 w3 w4 w5 hN v1.2.1 v1.2.2.1 v1.2.2.2.1 v1.2.2.2.2.2.1 w1.2.1 w1.2.2.1 w1.2.2.2.1 w1.2.2.2.2.2.1 hj2 h y0 y1 y2 y3 y4 with ⟨z, lf3, z0, z1, z2, z3, h⟩ | ⟨z, lf3, z0, z1, z2, z3, z4, h⟩ | ⟨z, g1, r1, k1, h⟩
        · have hf : ∀ i : Nat, upr (clr g' Z) k i = false := fun i => bf (fun q => by
            have q := (clr_i.mp (upr_i.mp q).2).1
            omega)
          exact Or.inl ⟨lf3, _, ⟨rfl, by omega, z0, z1, by
            rw [z2, cnt_0 (fun i _ => hf i)]
            show _ = ((0 : Nat), ((smA (clr g' Z) N k + cnt (upr (clr g' Z) k) N : Nat) : Int))
            rw [cnt_0 (fun i _ => hf i)], by rw [z3]; exact congrArg _ (Int.add_comm _ _)⟩, h⟩
        · have hf : upr (clr g' Z) k j = false := bf (fun q => by
            have q := (clr_i.mp (upr_i.mp q).2).1
            omega)
          exact Or.inr ⟨lf3, _, ⟨rfl, ⟨by omega, hj2⟩, z0, z1, by rw [z2, cnt_n hf], z3, by rw [z4]; exact congrArg _ (Int.add_comm _ _)⟩, h⟩
        · rcases t_fit_ok v4 v5 w4 w5 rfl rfl rfl (hM0 k hlt) (hM0 j hj2) hs0 k1 rfl rfl rfl rfl rfl with ⟨f1, o1⟩ | ⟨f1, o1⟩ <;> obtain ⟨s1, s2⟩ := oI o1 <;> rw [s1, s2] at h
          · rcases h with ⟨-, lf3, z0, z1, z2, z3, z4, h⟩ | ⟨q, -⟩
            · have hf : upr (clr g' Z) k j = false := bf (fun q => (clr_i.mp (upr_i.mp q).2).2 f1)
              exact Or.inr ⟨lf3, _, ⟨rfl, ⟨by omega, hj2⟩, z0, z1, by rw [z2, cnt_n hf], z3, by rw [z4]; exact congrArg _ (Int.add_comm _ _)⟩, h⟩
            · exact absurd q (by decide)
          · rcases h with ⟨q, -⟩ | ⟨-, lf3, z0, z1, z2, z3, z4, h⟩
            · exact absurd rfl q
            · have hf : upr (clr g' Z) k j = true := upr_i.mpr ⟨hkj, clr_i.mpr ⟨by omega, f1⟩⟩
              exact Or.inr ⟨lf3, _, ⟨rfl, ⟨by omega, hj2⟩, z0, z1, by rw [z2, cnt_s hf]; exact congrArg (fun x : Int => ((0, x) : Nat × Int)) (by omega), z3, by rw [z4]; exact congrArg _ (Int.add_comm _ _)⟩, h⟩
      · have ek : j = N := by omega
        subst ek
        obtain ⟨lf3, z0, z1, z2, z3, h⟩ := t_clo_e hZ (show smA (clr g' Z) j k + cnt (upr (clr g' Z) k) j ≤ 300 by omega) (by omega) hN16 hN16 hN (Nat.le_refl _) h y0 y1 y2 y3 y4
        exact Or.inl ⟨lf3, _, ⟨rfl, by omega, z0, z1, z2, by rw [z3]; exact congrArg _ (Int.add_comm _ _)⟩, h⟩
  · have ek : k = N := by omega
    subst ek
    exact Or.inl (t_clo_x hZ (show smA (clr g Z) k k ≤ 300 by omega) hN16 hN16 hN (Nat.le_refl _) h b0 b1 b2 b3)
theorem x_clom {Z : Nat} (hV : OHV c N) (hR : OHR c d N) (hM0 : ∀ k : Nat, k < N → 0 ≤ c 4 (ohq c k) ∧ c 4 (ohq c k) ≤ 60) (hs0 : 0 ≤ c 3 7 ∧ c 3 7 ≤ 60) (hM : ∀ k : Nat, k < N → d 254 (10 + ohq c k) = c 4 (ohq c k)) (hs : d 254 5 = c 3 7) (hN16 : N ≤ 16) (hN : d 254 2 = (N : Int)) (hZ : Z ≤ 5) (h : zr sv L n 330 14 lf [] d o) (h0 : lf 0 = (4, 253)) (h1 : lf 1 = (0, (Z : Int))) : o = (cup d 253 2 0, some (0, (smB (clr c Z) N : Int))) := by
  obtain ⟨lf1, a0, a1, a2, a3, h⟩ := m_clo14 hZ h h0 h1
  refine zloop (fun k lf g => g = d ∧ k ≤ N ∧ lf 0 = (4, 253) ∧ lf 1 = (0, (Z : Int)) ∧ lf 2 = (0, (smB (clr c Z) k : Int)) ∧ lf 3 = (0, (k : Int))) _ ?_ n 0 lf1 d ⟨rfl, by omega, a0, a1, a2, a3⟩ h
  intro n k lf g ⟨e, hk, b0, b1, b2, b3⟩ hzk
  subst e
  have h := hzk
  have l1 := smB_le (R := clr c Z) k (by omega)
  by_cases hlt : k < N
  · obtain ⟨lf2, y0, y1, y2, y3, y4, h⟩ := m_clo_o hZ (show smB (clr c Z) k ≤ 300 by omega) (by omega) hN16 hN hlt h b0 b1 b2 b3
    refine Or.inr (zloop2 (fun j lf g' => g' = g ∧ j ≤ k ∧ lf 0 = (4, 253) ∧ lf 1 = (0, (Z : Int)) ∧ lf 2 = (0, ((smB (clr c Z) k + cnt (col (clr c Z) k) j : Nat) : Int)) ∧ lf 3 = (0, (k : Int)) ∧ lf 4 = (0, (j : Int))) (fun n => ∃ lf' g', (g' = g ∧ k + 1 ≤ N ∧ lf' 0 = (4, 253) ∧ lf' 1 = (0, (Z : Int)) ∧ lf' 2 = (0, (smB (clr c Z) (k + 1) : Int)) ∧ lf' 3 = (0, ((k + 1 : Nat) : Int))) ∧ zr sv L n 330 18 lf' [] g' o) ?_ ?_ n 0 lf2 g ⟨rfl, by omega, y0, y1, y2, y3, y4⟩ h)
    · intro n ⟨lf', g', a, b⟩
      exact ⟨lf', g', a, zr_m b⟩
    · intro n j lf g' ⟨e, hj, y0, y1, y2, y3, y4⟩ hzj
      subst e
      have h := hzj
      have l2 := cnt_le (f := col (clr c Z) k) j
      by_cases hj2 : j < k
      · obtain ⟨v1, v2, v3, v4, v5⟩ := hV k hlt
        obtain ⟨w1, w2, w3, w4, w5⟩ := hV j (by omega)
        have rA := hR k hlt
        have rB := hR j (by omega)
        rcases m_clo_s (show k ≤ 15 by omega) (show j ≤ 15 by omega) (show smB (clr c Z) k + cnt (col (clr c Z) k) j ≤ 300 by omega) hZ v3 v4 v5 w3 w4 w5 rA.2.1 rA.2.2.1 rA.2.2.2.1 rA.2.2.2.2.2.1 rB.2.1 rB.2.2.1 rB.2.2.2.1 rB.2.2.2.2.2.1 hj2 h y0 y1 y2 y3 y4 with ⟨z, lf3, z0, z1, z2, z3, z4, h⟩ | ⟨z, g1, r1, k1, h⟩
        · have hf : col (clr c Z) k j = false := bf (fun q => by
            have q := (clr_i.mp q).1
            omega)
          exact Or.inr ⟨lf3, _, ⟨rfl, hj2, z0, z1, by rw [z2, cnt_n hf], z3, by rw [z4]; exact congrArg _ (Int.add_comm _ _)⟩, h⟩
        · rcases m_fit_ok v4 v5 w4 w5 (hM k hlt) (hM j (by omega)) hs (hM0 k hlt) (hM0 j (by omega)) hs0 k1 rfl rfl rfl rfl rfl with ⟨f1, o1⟩ | ⟨f1, o1⟩ <;> obtain ⟨s1, s2⟩ := oI o1 <;> rw [s1, s2] at h
          · rcases h with ⟨-, lf3, z0, z1, z2, z3, z4, h⟩ | ⟨q, -⟩
            · have hf : col (clr c Z) k j = false := bf (fun q => (clr_i.mp q).2 (fitp_s.mp f1))
              exact Or.inr ⟨lf3, _, ⟨rfl, hj2, z0, z1, by rw [z2, cnt_n hf], z3, by rw [z4]; exact congrArg _ (Int.add_comm _ _)⟩, h⟩
            · exact absurd q (by decide)
          · rcases h with ⟨q, -⟩ | ⟨-, lf3, z0, z1, z2, z3, z4, h⟩
            · exact absurd rfl q
            · have hf : col (clr c Z) k j = true := clr_i.mpr ⟨by omega, fun q => f1 (fitp_s.mp q)⟩
              exact Or.inr ⟨lf3, _, ⟨rfl, hj2, z0, z1, by rw [z2, cnt_s hf]; exact congrArg (fun x : Int => ((0, x) : Nat × Int)) (by omega), z3, by rw [z4]; exact congrArg _ (Int.add_comm _ _)⟩, h⟩
      · have ek : j = k := by omega
        subst ek
        obtain ⟨lf3, z0, z1, z2, z3, h⟩ := m_clo_e hZ (show smB (clr c Z) j + cnt (col (clr c Z) j) j ≤ 300 by omega) (by omega) (by omega) (Nat.le_refl _) h y0 y1 y2 y3 y4
        exact Or.inl ⟨lf3, _, ⟨rfl, by omega, z0, z1, z2, by rw [z3]; exact congrArg _ (Int.add_comm _ _)⟩, h⟩
  · have ek : k = N := by omega
    subst ek
    exact Or.inl (m_clo_x hZ (show smB (clr c Z) k ≤ 300 by omega) hN16 hN16 hN (Nat.le_refl _) h b0 b1 b2 b3)
theorem cla_op (hC : CT c d np nq N) (hG : GD c np nq N) (h : zr sv L n 329 0 lf [] c (c', some (0, r))) (h0 : lf 0 = (4, 0)) (h1 : lf 1 = (0, a)) (h' : zr sv L n' 330 0 lf' [] d (d', some (0, r'))) (h0' : lf' 0 = (4, 253)) (h1' : lf' 1 = (0, a)) : r = r' ∧ OPR c' d' np nq c d := by
  obtain ⟨⟨h5, h6, hN⟩, ⟨c0, c3, c9⟩, ⟨d0, d1, d2⟩, ⟨t3, t4, t5, t6⟩, hM, hS, -⟩ := id hC
  have hV := hG.hv h5 h6
  have hR := hC.hr hG
  have hT : ∀ k : Nat, k < N → d 254 (51 + 8 * ohp c k + oht c k) = trh c (ohp c k) (oht c k) := fun k hk => by
    obtain ⟨-, l0, l1, l2, l3⟩ := (hG.2.2.2.1 k hk).v h5 h6
    exact (hS _ l1).2 _ l3
  have hB : ∀ k : Nat, k < N → c (29 + k) 6 = 0 ∨ c (29 + k) 6 = 1 := fun k hk => (hG.2.2.2.1 k hk).2.2.2.2.2.2.1
  rcases t_cla h h0 h1 with ⟨z, o⟩ | ⟨z, g1, r1, k1, o⟩
  · rcases m_clo0 h' h0' h1' with ⟨z', o'⟩ | ⟨z', -⟩
    · obtain ⟨u1, u2⟩ := oI o
      obtain ⟨v1, v2⟩ := oI o'
      exact ⟨u2.trans v2.symm, opr_st hC hG u1 v1⟩
    · exfalso; omega
  · rcases m_clo0 h' h0' h1' with ⟨z', -⟩ | ⟨z', lf3, x0, x1, h'⟩
    · exfalso; omega
    · obtain ⟨Z, rfl⟩ : ∃ Z : Nat, a = (Z : Int) := ⟨a.toNat, by omega⟩
      have lq : ∀ k : Nat, k < N → ohq c k < np := fun k hk => ((hG.2.2.2.1 k hk).v h5 h6).2.2.2.1
      have hM0 : ∀ k : Nat, k < N → 0 ≤ c 4 (ohq c k) ∧ c 4 (ohq c k) ≤ 60 := fun k hk => hG.2.1 _ (lq k hk)
      obtain ⟨s1, s2⟩ := oI (x_clo hV hM0 hG.1.2.2 hN c9 (show Z ≤ 5 by omega) k1 rfl rfl)
      obtain ⟨v1, v2⟩ := oI (x_clom hV hR hM0 hG.1.2.2 (fun k hk => hM _ (lq k hk)) t5 hN d2 (show Z ≤ 5 by omega) h' x0 x1)
      obtain ⟨u1, u2⟩ := oI o
      rw [s1] at u1
      exact ⟨by rw [u2, s2, v2, smAB N (Nat.le_refl N)], opr_st hC hG u1 v1⟩
def alb (f : Nat → Bool) : Nat → Bool
  | 0 => true
  | n + 1 => alb f n && f n
theorem alb_s {f : Nat → Bool} {n : Nat} (h : alb f n = true) (hf : f n = true) : alb f (n + 1) = true := by
  show (alb f n && f n) = true
  rw [h, hf]; rfl
theorem alb_f {f : Nat → Bool} {k : Nat} (hf : f k = false) : ∀ n : Nat, k < n → alb f n = false
  | 0, h => absurd h (Nat.not_lt_zero k)
  | n + 1, h => by
    show (alb f n && f n) = false
    by_cases e : k = n
    · rw [← e, hf, Bool.and_false]
    · rw [alb_f hf n (by omega), Bool.false_and]
def ftx (c : cg) (P Q T k : Nat) : Bool := decide (trh c P k = -1) || fitb (c 3 7) (c 4 Q) (c 4 (trh c P k).toNat) Q T (trh c P k).toNat k
def fox (c : cg) (P Q T k : Nat) : Bool := decide (ohs c k ≠ 0 ∨ ohp c k ≠ P) || fitb (c 3 7) (c 4 Q) (c 4 (ohq c k)) Q T (ohq c k) (oht c k)
theorem ftx_n {k : Nat} (h : trh c P k = -1) : ftx c P Q T k = true := by
  unfold ftx
  rw [decide_eq_true h, Bool.true_or]
theorem ftx_v {k x : Nat} (h : trh c P k = (x : Int)) : ftx c P Q T k = fitb (c 3 7) (c 4 Q) (c 4 x) Q T x k := by
  unfold ftx
  rw [h, decide_eq_false (by omega), Bool.false_or]
  rfl
theorem fox_n {k : Nat} (h : ohs c k ≠ 0 ∨ ohp c k ≠ P) : fox c P Q T k = true := by
  unfold fox
  rw [decide_eq_true h, Bool.true_or]
theorem fox_v {k : Nat} (h : ohs c k = 0 ∧ ohp c k = P) : fox c P Q T k = fitb (c 3 7) (c 4 Q) (c 4 (ohq c k)) Q T (ohq c k) (oht c k) := by
  unfold fox
  rw [decide_eq_false (by omega), Bool.false_or]
def cbs (f : Nat → Bool) : Nat → Nat
  | 0 => 0
  | k + 1 => cond (f k) (cbs f k ||| 2 ^ k) (cbs f k)
theorem cbs_t {f : Nat → Bool} {k : Nat} (h : f k = true) : cbs f (k + 1) = cbs f k ||| 2 ^ k := by
  show cond (f k) _ _ = _
  rw [h]; rfl
theorem cbs_f {f : Nat → Bool} {k : Nat} (h : f k = false) : cbs f (k + 1) = cbs f k := by
  show cond (f k) _ _ = _
  rw [h]; rfl
theorem cbs_lt {f : Nat → Bool} : ∀ k : Nat, k ≤ 5 → cbs f k < 64
  | 0, _ => by
    show (0 : Nat) < 64
    decide
  | k + 1, h => by
    have q := cbs_lt (f := f) k (by omega)
    cases e : f k with
    | true => rw [cbs_t e]; exact (bor6 _ q k (by omega)).2
    | false => rw [cbs_f e]; exact q
def cbx (c : cg) (N P T q : Nat) : Bool := alb (ftx c P q T) 8 && alb (fox c P q T) N
theorem x_ftr (hTr : ∀ k : Nat, k < 8 → -1 ≤ trh c P k ∧ trh c P k < (np : Int)) (h5 : np ≤ 5) (hMi : ∀ q : Nat, q < np → 0 ≤ c 4 q ∧ c 4 q ≤ 60) (hs0 : 0 ≤ c 3 7 ∧ c 3 7 ≤ 60) (hP : P ≤ 5) (hQ : Q < np) (hT : T ≤ 7) (h : zr sv L n 112 0 lf [] c o) (h0 : lf 0 = (4, 102)) (h1 : lf 1 = (0, (P : Int))) (h2 : lf 2 = (0, (Q : Int))) (h3 : lf 3 = (0, (T : Int))) : (alb (ftx c P Q T) 8 = true ∧ o = (c, some (0, 1))) ∨ (alb (ftx c P Q T) 8 = false ∧ o = (c, some (0, 0))) := by
  obtain ⟨lf1, a0, a1, a2, a3, a4, h⟩ := t_ftr0 hP (show Q ≤ 4 by omega) hT h h0 h1 h2 h3
  refine zloop (fun k lf g => g = c ∧ (k ≤ 8 ∧ alb (ftx c P Q T) k = true) ∧ lf 0 = (4, 102) ∧ lf 1 = (0, (P : Int)) ∧ lf 2 = (0, (Q : Int)) ∧ lf 3 = (0, (T : Int)) ∧ lf 4 = (0, (k : Int))) _ ?_ n 0 lf1 c ⟨rfl, ⟨by omega, rfl⟩, a0, a1, a2, a3, a4⟩ h
  intro n k lf g ⟨e, ⟨hk, ha⟩, b0, b1, b2, b3, b4⟩ hzk
  subst e
  have h := hzk
  by_cases hlt : k < 8
  · obtain ⟨w1, w2⟩ := hTr k hlt
    rcases t_ftr_s hP (show Q ≤ 4 by omega) hT (show k ≤ 7 by omega) (show g (18 + 2 * P) k = trh g P k from rfl) h b0 b1 b2 b3 b4 with ⟨z, lf3, z0, z1, z2, z3, z4, h⟩ | ⟨z, g1, r1, k1, h⟩
    · exact Or.inr ⟨lf3, _, ⟨rfl, ⟨hlt, alb_s ha (ftx_n z)⟩, z0, z1, z2, z3, by rw [z4]; exact congrArg _ (Int.add_comm _ _)⟩, h⟩
    · obtain ⟨x, hx⟩ : ∃ x : Nat, trh g P k = (x : Int) := ⟨(trh g P k).toNat, by omega⟩
      have hx5 : x < np := by omega
      rw [hx] at k1
      rcases t_fit_ok (show Q ≤ 4 by omega) hT (show x ≤ 4 by omega) (show k ≤ 7 by omega) rfl rfl rfl (hMi Q hQ) (hMi _ hx5) hs0 k1 rfl rfl rfl rfl rfl with ⟨f1, o1⟩ | ⟨f1, o1⟩ <;> obtain ⟨s1, s2⟩ := oI o1 <;> rw [s1, s2] at h
      · rcases h with ⟨-, lf3, z0, z1, z2, z3, z4, h⟩ | ⟨q, -⟩
        · exact Or.inr ⟨lf3, _, ⟨rfl, ⟨hlt, alb_s ha ((ftx_v hx).trans (fitb_i.mpr f1))⟩, z0, z1, z2, z3, by rw [z4]; exact congrArg _ (Int.add_comm _ _)⟩, h⟩
        · exact absurd q (by decide)
      · rcases h with ⟨q, -⟩ | ⟨-, o2⟩
        · exact absurd rfl q
        · exact Or.inl (Or.inr ⟨alb_f ((ftx_v hx).trans (bf (fun q => f1 (fitb_i.mp q)))) 8 hlt, o2⟩)
  · have ek : k = 8 := by omega
    subst ek
    exact Or.inl (Or.inl ⟨ha, t_ftr_e hP (show Q ≤ 4 by omega) hT h b0 b1 b2 b3 b4⟩)
theorem x_fto (hV : OHV c N) (hN16 : N ≤ 16) (hN : c 3 9 = (N : Int)) (hOq : ∀ k : Nat, k < N → ohq c k < np) (h5 : np ≤ 5) (hMi : ∀ q : Nat, q < np → 0 ≤ c 4 q ∧ c 4 q ≤ 60) (hs0 : 0 ≤ c 3 7 ∧ c 3 7 ≤ 60) (hP : P ≤ 5) (hQ : Q < np) (hT : T ≤ 7) (h : zr sv L n 113 0 lf [] c o) (h0 : lf 0 = (4, 102)) (h1 : lf 1 = (0, (P : Int))) (h2 : lf 2 = (0, (Q : Int))) (h3 : lf 3 = (0, (T : Int))) : (alb (fox c P Q T) N = true ∧ o = (c, some (0, 1))) ∨ (alb (fox c P Q T) N = false ∧ o = (c, some (0, 0))) := by
  obtain ⟨lf1, a0, a1, a2, a3, a4, h⟩ := t_fto0 hP (show Q ≤ 4 by omega) hT h h0 h1 h2 h3
  refine zloop (fun k lf g => g = c ∧ (k ≤ N ∧ alb (fox c P Q T) k = true) ∧ lf 0 = (4, 102) ∧ lf 1 = (0, (P : Int)) ∧ lf 2 = (0, (Q : Int)) ∧ lf 3 = (0, (T : Int)) ∧ lf 4 = (0, (k : Int))) _ ?_ n 0 lf1 c ⟨rfl, ⟨by omega, rfl⟩, a0, a1, a2, a3, a4⟩ h
  intro n k lf g ⟨e, ⟨hk, ha⟩, b0, b1, b2, b3, b4⟩ hzk
  subst e
  have h := hzk
  by_cases hlt : k < N
  · obtain ⟨v1, v2, v3, v4, v5⟩ := hV k hlt
    rcases t_fto_s hP (show Q ≤ 4 by omega) hT v2 v3 v4 v5 (by omega) hN16 hN v1 hlt h b0 b1 b2 b3 b4 with ⟨z, lf3, z0, z1, z2, z3, z4, h⟩ | ⟨z, g1, r1, k1, h⟩
    · exact Or.inr ⟨lf3, _, ⟨rfl, ⟨hlt, alb_s ha (fox_n (by omega))⟩, z0, z1, z2, z3, by rw [z4]; exact congrArg _ (Int.add_comm _ _)⟩, h⟩
    · have hx : ohs g k = 0 ∧ ohp g k = P := by omega
      rcases t_fit_ok (show Q ≤ 4 by omega) hT (v4) (v5) rfl rfl rfl (hMi Q hQ) (hMi _ (hOq k hlt)) hs0 k1 rfl rfl rfl rfl rfl with ⟨f1, o1⟩ | ⟨f1, o1⟩ <;> obtain ⟨s1, s2⟩ := oI o1 <;> rw [s1, s2] at h
      · rcases h with ⟨-, lf3, z0, z1, z2, z3, z4, h⟩ | ⟨q, -⟩
        · exact Or.inr ⟨lf3, _, ⟨rfl, ⟨hlt, alb_s ha ((fox_v hx).trans (fitb_i.mpr f1))⟩, z0, z1, z2, z3, by rw [z4]; exact congrArg _ (Int.add_comm _ _)⟩, h⟩
        · exact absurd q (by decide)
      · rcases h with ⟨q, -⟩ | ⟨-, o2⟩
        · exact absurd rfl q
        · exact Or.inl (Or.inr ⟨alb_f ((fox_v hx).trans (bf (fun q => f1 (fitb_i.mp q)))) N hlt, o2⟩)
  · have ek : k = N := by omega
    subst ek
    exact Or.inl (Or.inl ⟨ha, t_fto_e hP (show Q ≤ 4 by omega) hT hN16 hN16 hN (Nat.le_refl _) h b0 b1 b2 b3 b4⟩)
theorem x_chb1 (hTr : ∀ k : Nat, k < 8 → -1 ≤ trh c P k ∧ trh c P k < (np : Int)) (h5 : np ≤ 5) (hMi : ∀ q : Nat, q < np → 0 ≤ c 4 q ∧ c 4 q ≤ 60) (hs0 : 0 ≤ c 3 7 ∧ c 3 7 ≤ 60) (hMm : ∀ q : Nat, q < np → d 254 (10 + q) = c 4 q) (hsm : d 254 5 = c 3 7) (hTm : ∀ k : Nat, k < 8 → d 254 (51 + 8 * P + k) = trh c P k) (hP : P ≤ 5) (hQ : Q < np) (hT : T ≤ 7) (h : zr sv L n 237 3 lf [] d o) (h0 : lf 0 = (4, 253)) (h1 : lf 1 = (0, (P : Int))) (h2 : lf 2 = (0, (Q : Int))) (h3 : lf 3 = (0, (T : Int))) (h4 : lf 4 = (0, 0)) : (alb (ftx c P Q T) 8 = true ∧ ∃ n1 lf1, lf1 0 = (4, 253) ∧ lf1 1 = (0, (P : Int)) ∧ lf1 2 = (0, (Q : Int)) ∧ lf1 3 = (0, (T : Int)) ∧ lf1 4 = (0, 0) ∧ zr sv L n1 237 50 lf1 [] d o) ∨ (alb (ftx c P Q T) 8 = false ∧ o = (d, some (0, 0))) := by
  refine zloop (fun k lf g => g = d ∧ (k ≤ 8 ∧ alb (ftx c P Q T) k = true) ∧ lf 0 = (4, 253) ∧ lf 1 = (0, (P : Int)) ∧ lf 2 = (0, (Q : Int)) ∧ lf 3 = (0, (T : Int)) ∧ lf 4 = (0, (k : Int))) _ ?_ n 0 lf d ⟨rfl, ⟨by omega, rfl⟩, h0, h1, h2, h3, h4⟩ h
  intro n k lf g ⟨e, ⟨hk, ha⟩, b0, b1, b2, b3, b4⟩ hzk
  subst e
  have h := hzk
  by_cases hlt : k < 8
  · obtain ⟨w1, w2⟩ := hTr k hlt
    rcases m_chb3_s hP (show Q ≤ 4 by omega) hT (show k ≤ 7 by omega) (hTm k (by omega)) h b0 b1 b2 b3 b4 with ⟨z, lf3, z0, z1, z2, z3, z4, h⟩ | ⟨z, g1, r1, k1, h⟩
    · exact Or.inr ⟨lf3, _, ⟨rfl, ⟨hlt, alb_s ha (ftx_n z)⟩, z0, z1, z2, z3, by rw [z4]; exact congrArg _ (Int.add_comm _ _)⟩, h⟩
    · obtain ⟨x, hx⟩ : ∃ x : Nat, trh c P k = (x : Int) := ⟨(trh c P k).toNat, by omega⟩
      have hx5 : x < np := by omega
      rw [hx] at k1
      rcases m_fit_ok (show Q ≤ 4 by omega) hT (show x ≤ 4 by omega) (show k ≤ 7 by omega) (hMm Q hQ) (hMm _ hx5) hsm (hMi Q hQ) (hMi _ hx5) hs0 k1 rfl rfl rfl rfl rfl with ⟨f1, o1⟩ | ⟨f1, o1⟩ <;> obtain ⟨s1, s2⟩ := oI o1 <;> rw [s1, s2] at h
      · rcases h with ⟨-, lf3, z0, z1, z2, z3, z4, h⟩ | ⟨q, -⟩
        · exact Or.inr ⟨lf3, _, ⟨rfl, ⟨hlt, alb_s ha ((ftx_v hx).trans (fitb_i.mpr f1))⟩, z0, z1, z2, z3, by rw [z4]; exact congrArg _ (Int.add_comm _ _)⟩, h⟩
        · exact absurd q (by decide)
      · rcases h with ⟨q, -⟩ | ⟨-, o2⟩
        · exact absurd rfl q
        · exact Or.inl (Or.inr ⟨alb_f ((ftx_v hx).trans (bf (fun q => f1 (fitb_i.mp q)))) 8 hlt, o2⟩)
  · have ek : k = 8 := by omega
    subst ek
    obtain ⟨lf2, y0, y1, y2, y3, y4, h⟩ := m_chb3_e hP (show Q ≤ 4 by omega) hT h b0 b1 b2 b3 b4
    exact Or.inl (Or.inl ⟨ha, _, lf2, y0, y1, y2, y3, y4, h⟩)
theorem x_chb2 (hV : OHV c N) (hR : OHR c d N) (hN16 : N ≤ 16) (hN : d 254 2 = (N : Int)) (hOq : ∀ k : Nat, k < N → ohq c k < np) (h5 : np ≤ 5) (hMi : ∀ q : Nat, q < np → 0 ≤ c 4 q ∧ c 4 q ≤ 60) (hs0 : 0 ≤ c 3 7 ∧ c 3 7 ≤ 60) (hMm : ∀ q : Nat, q < np → d 254 (10 + q) = c 4 q) (hsm : d 254 5 = c 3 7) (hP : P ≤ 5) (hQ : Q < np) (hT : T ≤ 7) (h : zr sv L n 237 50 lf [] d o) (h0 : lf 0 = (4, 253)) (h1 : lf 1 = (0, (P : Int))) (h2 : lf 2 = (0, (Q : Int))) (h3 : lf 3 = (0, (T : Int))) (h4 : lf 4 = (0, 0)) : (alb (fox c P Q T) N = true ∧ o = (d, some (0, 1))) ∨ (alb (fox c P Q T) N = false ∧ o = (d, some (0, 0))) := by
  refine zloop (fun k lf g => g = d ∧ (k ≤ N ∧ alb (fox c P Q T) k = true) ∧ lf 0 = (4, 253) ∧ lf 1 = (0, (P : Int)) ∧ lf 2 = (0, (Q : Int)) ∧ lf 3 = (0, (T : Int)) ∧ lf 4 = (0, (k : Int))) _ ?_ n 0 lf d ⟨rfl, ⟨by omega, rfl⟩, h0, h1, h2, h3, h4⟩ h
  intro n k lf g ⟨e, ⟨hk, ha⟩, b0, b1, b2, b3, b4⟩ hzk
  subst e
  have h := hzk
  by_cases hlt : k < N
  · obtain ⟨v1, v2, v3, v4, v5⟩ := hV k hlt
    rcases m_chb_s hP (show Q ≤ 4 by omega) hT v2 v3 v4 v5 (by omega) hN16 hN (hR k hlt) hlt h b0 b1 b2 b3 b4 with ⟨z, lf3, z0, z1, z2, z3, z4, h⟩ | ⟨z, g1, r1, k1, h⟩
    · exact Or.inr ⟨lf3, _, ⟨rfl, ⟨hlt, alb_s ha (fox_n (by omega))⟩, z0, z1, z2, z3, by rw [z4]; exact congrArg _ (Int.add_comm _ _)⟩, h⟩
    · have hx : ohs c k = 0 ∧ ohp c k = P := by omega
      rcases m_fit_ok (show Q ≤ 4 by omega) hT (v4) (v5) (hMm Q hQ) (hMm _ (hOq k hlt)) hsm (hMi Q hQ) (hMi _ (hOq k hlt)) hs0 k1 rfl rfl rfl rfl rfl with ⟨f1, o1⟩ | ⟨f1, o1⟩ <;> obtain ⟨s1, s2⟩ := oI o1 <;> rw [s1, s2] at h
      · rcases h with ⟨-, lf3, z0, z1, z2, z3, z4, h⟩ | ⟨q, -⟩
        · exact Or.inr ⟨lf3, _, ⟨rfl, ⟨hlt, alb_s ha ((fox_v hx).trans (fitb_i.mpr f1))⟩, z0, z1, z2, z3, by rw [z4]; exact congrArg _ (Int.add_comm _ _)⟩, h⟩
        · exact absurd q (by decide)
      · rcases h with ⟨q, -⟩ | ⟨-, o2⟩
        · exact absurd rfl q
        · exact Or.inl (Or.inr ⟨alb_f ((fox_v hx).trans (bf (fun q => f1 (fitb_i.mp q)))) N hlt, o2⟩)
  · have ek : k = N := by omega
    subst ek
    exact Or.inl (Or.inl ⟨ha, m_chb_e hP (show Q ≤ 4 by omega) hT hN16 hN16 hN (Nat.le_refl _) h b0 b1 b2 b3 b4⟩)
theorem x_wft (hV : OHV c N) (hN16 : N ≤ 16) (hN : c 3 9 = (N : Int)) (hOq : ∀ k : Nat, k < N → ohq c k < np) (hTr : ∀ k : Nat, k < 8 → -1 ≤ trh c P k ∧ trh c P k < (np : Int)) (h5 : np ≤ 5) (hMi : ∀ q : Nat, q < np → 0 ≤ c 4 q ∧ c 4 q ≤ 60) (hs0 : 0 ≤ c 3 7 ∧ c 3 7 ≤ 60) (hQn : c 3 0 = (np : Int)) (hP : P ≤ 5) (hT : T ≤ 7) (h : zr sv L n 111 0 lf [] c o) (h0 : lf 0 = (4, 102)) (h1 : lf 1 = (0, (P : Int))) (h2 : lf 2 = (0, (T : Int))) : o = (c, some (0, (cbs (cbx c N P T) np : Int))) := by
  obtain ⟨lf1, a0, a1, a2, a3, a4, h⟩ := t_wft0 hP hT h h0 h1 h2
  refine zloop (fun k lf g => g = c ∧ k ≤ np ∧ lf 0 = (4, 102) ∧ lf 1 = (0, (P : Int)) ∧ lf 2 = (0, (T : Int)) ∧ lf 3 = (0, (cbs (cbx c N P T) k : Int)) ∧ lf 4 = (0, (k : Int))) _ ?_ n 0 lf1 c ⟨rfl, by omega, a0, a1, a2, a3, a4⟩ h
  intro n k lf g ⟨e, hk, b0, b1, b2, b3, b4⟩ hzk
  subst e
  have h := hzk
  by_cases hlt : k < np
  · have lt := cbs_lt (f := cbx g N P T) k (by omega)
    obtain ⟨g1, r1, k1, h⟩ := t_wft_s hP hT (show k ≤ 4 by omega) h5 hQn hlt h b0 b1 b2 b3 b4
    have N0 : cbx g N P T k = false → ∀ {lf3 : dlf}, lf3 0 = (4, 102) → lf3 1 = (0, (P : Int)) → lf3 2 = (0, (T : Int)) → lf3 3 = (0, (cbs (cbx g N P T) k : Int)) → lf3 4 = (0, 1 + (k : Int)) → zr sv L n 111 5 lf3 [] g o → ∃ lf' g', (g' = g ∧ k + 1 ≤ np ∧ lf' 0 = (4, 102) ∧ lf' 1 = (0, (P : Int)) ∧ lf' 2 = (0, (T : Int)) ∧ lf' 3 = (0, (cbs (cbx g N P T) (k + 1) : Int)) ∧ lf' 4 = (0, ((k + 1 : Nat) : Int))) ∧ zr sv L n 111 5 lf' [] g' o := fun hf lf3 z0 z1 z2 z3 z4 h => ⟨lf3, g, ⟨rfl, hlt, z0, z1, z2, by rw [z3, cbs_f hf], by rw [z4]; exact congrArg _ (Int.add_comm _ _)⟩, h⟩
    rcases x_ftr hTr h5 hMi hs0 hP hlt hT k1 rfl rfl rfl rfl with ⟨f1, o1⟩ | ⟨f1, o1⟩ <;> obtain ⟨s1, s2⟩ := oI o1 <;> rw [s1, s2] at h
    · rcases h with ⟨q, -⟩ | ⟨-, g2, r2, k2, h⟩
      · exact absurd q (by decide)
      · rcases x_fto hV hN16 hN hOq h5 hMi hs0 hP hlt hT k2 rfl rfl rfl rfl with ⟨f2, o2⟩ | ⟨f2, o2⟩ <;> obtain ⟨s3, s4⟩ := oI o2 <;> rw [s3, s4] at h
        · rcases h with ⟨q, -⟩ | ⟨-, lf3, z0, z1, z2, z3, z4, h⟩
          · exact absurd q (by decide)
          · have hf : cbx g N P T k = true := by
              unfold cbx
              rw [f1, f2]; rfl
            rw [(bor6 _ lt k (by omega)).1] at z3
            exact Or.inr ⟨lf3, _, ⟨rfl, hlt, z0, z1, z2, by rw [z3, cbs_t hf], by rw [z4]; exact congrArg _ (Int.add_comm _ _)⟩, h⟩
        · rcases h with ⟨-, lf3, z0, z1, z2, z3, z4, h⟩ | ⟨q, -⟩
          · exact Or.inr (N0 (by unfold cbx; rw [f1, f2]; rfl) z0 z1 z2 z3 z4 h)
          · exact absurd rfl q
    · rcases h with ⟨-, lf3, z0, z1, z2, z3, z4, h⟩ | ⟨q, -⟩
      · exact Or.inr (N0 (by unfold cbx; rw [f1]; rfl) z0 z1 z2 z3 z4 h)
      · exact absurd rfl q
  · have ek : k = np := by omega
    subst ek
    exact Or.inl (t_wft_e hP hT h5 h5 hQn (Nat.le_refl _) h b0 b1 b2 b3 b4)
theorem x_chb (hV : OHV c N) (hR : OHR c d N) (hN16 : N ≤ 16) (hN : d 254 2 = (N : Int)) (hOq : ∀ k : Nat, k < N → ohq c k < np) (hTr : ∀ k : Nat, k < 8 → -1 ≤ trh c P k ∧ trh c P k < (np : Int)) (h5 : np ≤ 5) (hMi : ∀ q : Nat, q < np → 0 ≤ c 4 q ∧ c 4 q ≤ 60) (hs0 : 0 ≤ c 3 7 ∧ c 3 7 ≤ 60) (hMm : ∀ q : Nat, q < np → d 254 (10 + q) = c 4 q) (hsm : d 254 5 = c 3 7) (hTm : ∀ k : Nat, k < 8 → d 254 (51 + 8 * P + k) = trh c P k) (hP : P ≤ 5) (hQ : Q < np) (hT : T ≤ 7) (h : zr sv L n 237 0 lf [] d o) (h0 : lf 0 = (4, 253)) (h1 : lf 1 = (0, (P : Int))) (h2 : lf 2 = (0, (Q : Int))) (h3 : lf 3 = (0, (T : Int))) : (cbx c N P T Q = true ∧ o = (d, some (0, 1))) ∨ (cbx c N P T Q = false ∧ o = (d, some (0, 0))) := by
  obtain ⟨lf1, a0, a1, a2, a3, a4, h⟩ := m_chb0 hP (show Q ≤ 4 by omega) hT h h0 h1 h2 h3
  unfold cbx
  rcases x_chb1 hTr h5 hMi hs0 hMm hsm hTm hP hQ hT h a0 a1 a2 a3 a4 with ⟨f1, n1, lf2, y0, y1, y2, y3, y4, h⟩ | ⟨f1, o1⟩
  · rw [f1, Bool.true_and]
    exact x_chb2 hV hR hN16 hN hOq h5 hMi hs0 hMm hsm hP hQ hT h y0 y1 y2 y3 y4
  · rw [f1, Bool.false_and]
    exact Or.inr ⟨rfl, o1⟩
theorem x_cbem (hV : OHV c N) (hR : OHR c d N) (hN16 : N ≤ 16) (hN : d 254 2 = (N : Int)) (hOq : ∀ k : Nat, k < N → ohq c k < np) (hTr : ∀ k : Nat, k < 8 → -1 ≤ trh c P k ∧ trh c P k < (np : Int)) (h5 : np ≤ 5) (hMi : ∀ q : Nat, q < np → 0 ≤ c 4 q ∧ c 4 q ≤ 60) (hs0 : 0 ≤ c 3 7 ∧ c 3 7 ≤ 60) (hMm : ∀ q : Nat, q < np → d 254 (10 + q) = c 4 q) (hsm : d 254 5 = c 3 7) (hTm : ∀ k : Nat, k < 8 → d 254 (51 + 8 * P + k) = trh c P k) (hQn : d 254 0 = (np : Int)) (hP : P ≤ 5) (hT : T ≤ 7) (h : zr sv L n 320 21 lf [] d o) (h0 : lf 0 = (4, 253)) (h1 : lf 1 = (0, (P : Int))) (h2 : lf 2 = (0, (T : Int))) : o = (cup d 253 2 0, some (0, (cbs (cbx c N P T) np : Int))) := by
  obtain ⟨lf1, a0, a1, a2, a3, a4, h⟩ := m_cbe21 hP hT h h0 h1 h2
  refine zloop (fun k lf g => g = d ∧ k ≤ np ∧ lf 0 = (4, 253) ∧ lf 1 = (0, (P : Int)) ∧ lf 2 = (0, (T : Int)) ∧ lf 3 = (0, (cbs (cbx c N P T) k : Int)) ∧ lf 4 = (0, (k : Int))) _ ?_ n 0 lf1 d ⟨rfl, by omega, a0, a1, a2, a3, a4⟩ h
  intro n k lf g ⟨e, hk, b0, b1, b2, b3, b4⟩ hzk
  subst e
  have h := hzk
  by_cases hlt : k < np
  · have lt := cbs_lt (f := cbx c N P T) k (by omega)
    obtain ⟨g1, r1, k1, h⟩ := m_cbe_s hP hT (show k ≤ 4 by omega) h5 hQn hlt h b0 b1 b2 b3 b4
    rcases x_chb hV hR hN16 hN hOq hTr h5 hMi hs0 hMm hsm hTm hP hlt hT k1 rfl rfl rfl rfl with ⟨hf, o1⟩ | ⟨hf, o1⟩ <;> obtain ⟨s1, s2⟩ := oI o1 <;> rw [s1, s2] at h
    · rcases h with ⟨q, -⟩ | ⟨-, lf3, z0, z1, z2, z3, z4, h⟩
      · exact absurd q (by decide)
      · rw [(bor6 _ lt k (by omega)).1] at z3
        exact Or.inr ⟨lf3, _, ⟨rfl, hlt, z0, z1, z2, by rw [z3, cbs_t hf], by rw [z4]; exact congrArg _ (Int.add_comm _ _)⟩, h⟩
    · rcases h with ⟨-, lf3, z0, z1, z2, z3, z4, h⟩ | ⟨q, -⟩
      · rw [bor0 _ lt] at z3
        exact Or.inr ⟨lf3, _, ⟨rfl, hlt, z0, z1, z2, by rw [z3, cbs_f hf], by rw [z4]; exact congrArg _ (Int.add_comm _ _)⟩, h⟩
      · exact absurd rfl q
  · have ek : k = np := by omega
    subst ek
    exact Or.inl (m_cbe_e hP hT h5 h5 hQn (Nat.le_refl _) h b0 b1 b2 b3 b4)
theorem cbe_op (hC : CT c d np nq N) (hG : GD c np nq N) (h : zr sv L n 319 0 lf [] c (c', some (0, r))) (h0 : lf 0 = (4, 0)) (h1 : lf 1 = (0, a)) (h2 : lf 2 = (0, b)) (h' : zr sv L n' 320 0 lf' [] d (d', some (0, r'))) (h0' : lf' 0 = (4, 253)) (h1' : lf' 1 = (0, a)) (h2' : lf' 2 = (0, b)) : r = r' ∧ OPR c' d' np nq c d := by
  obtain ⟨⟨h5, h6, hN⟩, ⟨c0, c3, c9⟩, ⟨d0, d1, d2⟩, ⟨t3, t4, t5, t6⟩, hM, hS, -⟩ := id hC
  have hV := hG.hv h5 h6
  have hR := hC.hr hG
  have hT : ∀ k : Nat, k < N → d 254 (51 + 8 * ohp c k + oht c k) = trh c (ohp c k) (oht c k) := fun k hk => by
    obtain ⟨-, l0, l1, l2, l3⟩ := (hG.2.2.2.1 k hk).v h5 h6
    exact (hS _ l1).2 _ l3
  have hB : ∀ k : Nat, k < N → c (29 + k) 6 = 0 ∨ c (29 + k) 6 = 1 := fun k hk => (hG.2.2.2.1 k hk).2.2.2.2.2.2.1
  rcases t_cbe0 h h0 h1 h2 with ⟨z, o⟩ | ⟨z, g1, r1, k1, o⟩
  · rcases m_cbe0 h' h0' h1' h2' with ⟨z', o'⟩ | ⟨z', -⟩
    · obtain ⟨u1, u2⟩ := oI o
      obtain ⟨v1, v2⟩ := oI o'
      exact ⟨u2.trans v2.symm, opr_st hC hG u1 v1⟩
    · exfalso; omega
  · rcases m_cbe0 h' h0' h1' h2' with ⟨z', -⟩ | ⟨z', lf3, x0, x1, x2, h'⟩
    · exfalso; omega
    · obtain ⟨P, rfl⟩ : ∃ P : Nat, a = (P : Int) := ⟨a.toNat, by omega⟩
      obtain ⟨T, rfl⟩ : ∃ T : Nat, b = (T : Int) := ⟨b.toNat, by omega⟩
      have hOq : ∀ k : Nat, k < N → ohq c k < np := fun k hk => ((hG.2.2.2.1 k hk).v h5 h6).2.2.2.1
      have hTr := (hG.2.2.1 P (by omega)).2.2.2.2.2
      obtain ⟨s1, s2⟩ := oI (x_wft hV hN c9 hOq hTr h5 hG.2.1 hG.1.2.2 c0 (show P ≤ 5 by omega) (show T ≤ 7 by omega) k1 rfl rfl rfl)
      obtain ⟨v1, v2⟩ := oI (x_cbem hV hR hN d2 hOq hTr h5 hG.2.1 hG.1.2.2 hM t5 (hS P (by omega)).2 d0 (show P ≤ 5 by omega) (show T ≤ 7 by omega) h' x0 x1 x2)
      obtain ⟨u1, u2⟩ := oI o
      rw [s1] at u1
      exact ⟨by rw [u2, s2, v2], opr_st hC hG u1 v1⟩
end Ans3
