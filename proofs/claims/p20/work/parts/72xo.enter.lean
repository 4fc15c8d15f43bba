/-! an OATH is entered, on both sides: which OATHS are VOID by it -/
def fitb (sp x y : Int) (q t Q T : Nat) : Bool := decide ((t = T ∧ q = Q) ∨ (t ≠ T ∧ (x - y).natAbs ≤ (sp * ((t : Int) - (T : Int))).natAbs))
theorem fitb_i {sp x y : Int} {q t Q T : Nat} : fitb sp x y q t Q T = true ↔ FITP sp x y q t Q T := decide_eq_true_iff
def gsx (c : cg) (W P Q T i : Nat) : Bool := gns c W P Q T i && decide (c (17 + 2 * W) 2 ≠ 0)
def msx (c : cg) (P Q T i : Nat) : Bool := decide (trh c P T ≠ (Q : Int)) && (decide (ohs c i = 0 ∧ ohp c i = P ∧ oht c i ≠ T ∧ trh c (ohp c i) (oht c i) ≠ (ohq c i : Int)) && !fitb (c 3 7) (c 4 (ohq c i)) (c 4 Q) (ohq c i) (oht c i) Q T)
theorem gsx_i {c : cg} {W P Q T i : Nat} : gsx c W P Q T i = true ↔ gns c W P Q T i = true ∧ c (17 + 2 * W) 2 ≠ 0 := by
  unfold gsx
  rw [Bool.and_eq_true, decide_eq_true_iff]
theorem msx_i {c : cg} {P Q T i : Nat} : msx c P Q T i = true ↔ trh c P T ≠ (Q : Int) ∧ (ohs c i = 0 ∧ ohp c i = P ∧ oht c i ≠ T ∧ trh c (ohp c i) (oht c i) ≠ (ohq c i : Int)) ∧ ¬ FITP (c 3 7) (c 4 (ohq c i)) (c 4 Q) (ohq c i) (oht c i) Q T := by
  unfold msx
  rw [Bool.and_eq_true, Bool.and_eq_true, decide_eq_true_iff, decide_eq_true_iff, Bool.not_eq_true', ← fitb_i]
  cases fitb (c 3 7) (c 4 (ohq c i)) (c 4 Q) (ohq c i) (oht c i) Q T with
  | true => exact ⟨fun h => (by cases h.2.2), fun h => absurd rfl h.2.2⟩
  | false => exact ⟨fun h => ⟨h.1, h.2.1, fun e => by cases e⟩, fun h => ⟨h.1, h.2.1, rfl⟩⟩
/-- the set of those that are so, among the first k -/
def bset (f : Nat → Bool) (k m : Nat) : Prop := m < 2 ^ 16 ∧ ∀ v : Nat, m.testBit v = true ↔ v < k ∧ f v = true
theorem bset0 {f : Nat → Bool} : bset f 0 0 := ⟨by decide, fun v => ⟨fun h => (by rw [Nat.zero_testBit] at h; cases h), fun h => absurd h.1 (Nat.not_lt_zero v)⟩⟩
theorem bset_n {f : Nat → Bool} {k m : Nat} (h : bset f k m) (hf : f k = false) : bset f (k + 1) m := ⟨h.1, fun v => (h.2 v).trans ⟨fun x => ⟨by omega, x.2⟩, fun x => ⟨by
  by_cases q : v = k
  · rw [q, hf] at x; cases x.2
  · omega, x.2⟩⟩⟩
theorem bset_s {f : Nat → Bool} {k m : Nat} (h : bset f k m) (hk : k < 16) (hf : f k = true) : bset f (k + 1) (m ||| 2 ^ k) := by
  refine ⟨tblt h.1 hk, fun v => ?_⟩
  rw [tbor, Bool.or_eq_true, h.2 v, decide_eq_true_iff]
  constructor
  · rintro (x | x)
    · exact ⟨by omega, x.2⟩
    · exact ⟨by omega, by rw [← x]; exact hf⟩
  · intro x
    by_cases q : k = v
    · exact Or.inr q
    · exact Or.inl ⟨by omega, x.2⟩
theorem p16 : (2 : Nat) ^ 16 ≤ 2 ^ 30 := by decide
theorem lt16 {m : Nat} (h : m < 2 ^ 16) : m < 2 ^ 30 := Nat.lt_of_lt_of_le h p16
theorem borz {m : Nat} (h : m < 2 ^ 30) : bor (m : Int) 0 = (m : Int) := by
  rw [show (0 : Int) = ((0 : Nat) : Int) from rfl, bor_n h (by decide), Nat.or_zero]
/-- what an OATH makes VOID: of those ahead, and itself -/
def voy (c : cg) (N W P Q T i : Nat) : Bool := gsx c W P Q T i || msx c P Q T i
def von (c : cg) (N P Q T : Nat) : Bool := decide (0 < cnt (msx c P Q T) N)
section Ent
variable {sv : Nat → Int32} {L : Nat} {n : Nat} {lf : dlf} {c d : cg} {o : cg × Option cv} {np nq N W P Q T : Nat}
theorem struck_ok (hG : GD c np nq N) (h5 : np ≤ 5) (h6 : nq ≤ 6) (hN16 : N ≤ 16) (hN : c 3 9 = (N : Int)) (hW : W < nq) (hP : P < nq) (hQ : Q < np) (hT : T < 8) (h : zr sv L n 100 0 lf [] c o) (h0 : lf 0 = (4, 3)) (h1 : lf 1 = (0, (W : Int))) (h2 : lf 2 = (0, (P : Int))) (h3 : lf 3 = (0, (Q : Int))) (h4 : lf 4 = (0, (T : Int))) : ∃ m : Nat, o = (c, some (0, (m : Int))) ∧ m < 2 ^ 30 ∧ (∀ v : Nat, v < N → (m.testBit v = true ↔ voy c N W P Q T v = true)) ∧ (m.testBit N = true ↔ von c N P Q T = true) := by
  have hV := hG.hv h5 h6
  obtain ⟨⟨-, -, s0⟩, ml, -, -, -⟩ := id hG
  obtain ⟨l, lf1, hl, a0, a1, a2, a3, a4, a5, a6, a7, a8, a9, h⟩ : ∃ (l : Int) (lf1 : dlf), (l = 0 ↔ trh c P T = (Q : Int)) ∧ lf1 0 = (4, 3) ∧ lf1 1 = (0, (W : Int)) ∧ lf1 2 = (0, (P : Int)) ∧ lf1 3 = (0, (Q : Int)) ∧ lf1 4 = (0, (T : Int)) ∧ lf1 5 = (0, c (17 + 2 * W) 2) ∧ lf1 6 = (0, l) ∧ lf1 7 = (0, 0) ∧ lf1 8 = (0, 0) ∧ lf1 9 = (0, 0) ∧ zr sv L n 100 38 lf1 [] c o := by
    rcases t_stk0 (by omega) (by omega) (by omega) (by omega) rfl (show c (18 + 2 * P) T = trh c P T from rfl) h h0 h1 h2 h3 h4 with ⟨z, lf1, w⟩ | ⟨z, lf1, w⟩
    · exact ⟨1, lf1, ⟨fun e => absurd e (by decide), fun e => absurd e z⟩, w⟩
    · exact ⟨0, lf1, ⟨fun _ => z, fun _ => rfl⟩, w⟩
  refine zloop (fun k lf g => g = c ∧ k ≤ N ∧ lf 0 = (4, 3) ∧ lf 1 = (0, (W : Int)) ∧ lf 2 = (0, (P : Int)) ∧ lf 3 = (0, (Q : Int)) ∧ lf 4 = (0, (T : Int)) ∧ lf 5 = (0, c (17 + 2 * W) 2) ∧ lf 6 = (0, l) ∧ lf 9 = (0, (k : Int)) ∧ ∃ a b : Nat, lf 7 = (0, (a : Int)) ∧ lf 8 = (0, (b : Int)) ∧ bset (gsx c W P Q T) k a ∧ bset (msx c P Q T) k b) _ ?_ n 0 lf1 c ⟨rfl, by omega, a0, a1, a2, a3, a4, a5, a6, a9, 0, 0, a7, a8, bset0, bset0⟩ h
  intro n k lf g ⟨e, hk, b0, b1, b2, b3, b4, b5, b6, b9, a, b, b7, b8, ba, bb⟩ hzk
  subst e
  have h := hzk
  by_cases hlt : k < N
  · obtain ⟨v1, v2, v3, v4, v5⟩ := hV k hlt
    obtain ⟨-, l0, l1, l2, l3⟩ := (hG.2.2.2.1 k hlt).v h5 h6
    have fs := bset_s ba (show k < 16 by omega)
    have fn := bset_n (f := gsx g W P Q T) ba
    have ms := bset_s bb (show k < 16 by omega)
    have mn := bset_n (f := msx g P Q T) bb
    have sa : bor (a : Int) (bsl 1 (k : Int)) = ((a ||| 2 ^ k : Nat) : Int) := by rw [bsl1 _ (by omega), bor_n (lt16 ba.1) (Nat.pow_lt_pow_right (by decide) (by omega))]
    have sb : bor (b : Int) (bsl 1 (k : Int)) = ((b ||| 2 ^ k : Nat) : Int) := by rw [bsl1 _ (by omega), bor_n (lt16 bb.1) (Nat.pow_lt_pow_right (by decide) (by omega))]
    rcases t_stk_s (by omega) (by omega) (by omega) (by omega) v2 v3 v4 v5 (by omega) hN16 hN v1 (show g (18 + 2 * ohp g k) (oht g k) = trh g (ohp g k) (oht g k) from rfl) hlt h b0 b1 b2 b3 b4 b5 b6 b7 b8 b9 with ⟨z, lf2, y0, y1, y2, y3, y4, y5, y6, y7, y8, y9, h⟩ | ⟨z, g1, r1, kf, h⟩ | ⟨z, lf2, y0, y1, y2, y3, y4, y5, y6, y7, y8, y9, h⟩ | ⟨z, lf2, y0, y1, y2, y3, y4, y5, y6, y7, y8, y9, h⟩
    · have e1 : gsx g W P Q T k = false := bf (fun q => by
        have := gns_i.mp (gsx_i.mp q).1
        omega)
      have e2 : msx g P Q T k = false := bf (fun q => by
        obtain ⟨q1, q2, -⟩ := msx_i.mp q
        omega)
      exact Or.inr ⟨lf2, _, ⟨rfl, hlt, y0, y1, y2, y3, y4, y5, y6, by rw [y9]; exact congrArg _ (Int.add_comm _ _), a, b, y7, y8, fn e1, mn e2⟩, h⟩
    · have e1 : gsx g W P Q T k = false := bf (fun q => by
        have := gns_i.mp (gsx_i.mp q).1
        omega)
      rcases t_fit_ok v4 v5 (by omega) (by omega) rfl rfl rfl (ml _ l2) (ml _ hQ) s0 kf rfl rfl rfl rfl rfl with ⟨f1, f2⟩ | ⟨f1, f2⟩
      · obtain ⟨u1, u2⟩ := oI f2
        rw [u1, u2] at h
        have e2 : msx g P Q T k = false := bf (fun q => (msx_i.mp q).2.2 f1)
        rcases h with ⟨-, lf2, y0, y1, y2, y3, y4, y5, y6, y7, y8, y9, h⟩ | ⟨x, -⟩
        · exact Or.inr ⟨lf2, _, ⟨rfl, hlt, y0, y1, y2, y3, y4, y5, y6, by rw [y9]; exact congrArg _ (Int.add_comm _ _), a, b, y7, y8, fn e1, mn e2⟩, h⟩
        · exact absurd x (by decide)
      · obtain ⟨u1, u2⟩ := oI f2
        rw [u1, u2] at h
        have e2 : msx g P Q T k = true := msx_i.mpr ⟨fun q => z.2.2.2.1 (hl.mpr q), ⟨z.1, by omega, by omega, z.2.2.2.2⟩, f1⟩
        rcases h with ⟨x, -⟩ | ⟨-, lf2, y0, y1, y2, y3, y4, y5, y6, y7, y8, y9, h⟩
        · exact absurd rfl x
        · rw [sb] at y8
          exact Or.inr ⟨lf2, _, ⟨rfl, hlt, y0, y1, y2, y3, y4, y5, y6, by rw [y9]; exact congrArg _ (Int.add_comm _ _), a, _, y7, y8, fn e1, ms e2⟩, h⟩
    · have e1 : gsx g W P Q T k = false := bf (fun q => by
        obtain ⟨q1, q2⟩ := gsx_i.mp q
        have := gns_i.mp q1
        omega)
      have e2 : msx g P Q T k = false := bf (fun q => by
        obtain ⟨q1, q2, -⟩ := msx_i.mp q
        omega)
      rw [borz (lt16 ba.1)] at y7
      exact Or.inr ⟨lf2, _, ⟨rfl, hlt, y0, y1, y2, y3, y4, y5, y6, by rw [y9]; exact congrArg _ (Int.add_comm _ _), a, b, y7, y8, fn e1, mn e2⟩, h⟩
    · have e1 : gsx g W P Q T k = true := gsx_i.mpr ⟨gns_i.mpr (by omega), z.2.2.2.2.2⟩
      have e2 : msx g P Q T k = false := bf (fun q => by
        obtain ⟨q1, q2, -⟩ := msx_i.mp q
        omega)
      rw [sa] at y7
      exact Or.inr ⟨lf2, _, ⟨rfl, hlt, y0, y1, y2, y3, y4, y5, y6, by rw [y9]; exact congrArg _ (Int.add_comm _ _), _, b, y7, y8, fs e1, mn e2⟩, h⟩
  · have ek : k = N := by omega
    subst ek
    have ab : a ||| b < 2 ^ 16 := Nat.or_lt_two_pow ba.1 bb.1
    have hv : ∀ v : Nat, v < k → ((a ||| b).testBit v = true ↔ voy g k W P Q T v = true) := fun v hv => by
      unfold voy
      rw [Nat.testBit_or, Bool.or_eq_true, Bool.or_eq_true, ba.2 v, bb.2 v]
      exact ⟨fun x => x.imp (fun y => y.2) (fun y => y.2), fun x => x.imp (fun y => ⟨hv, y⟩) (fun y => ⟨hv, y⟩)⟩
    have nk : (a ||| b).testBit k = false := bf (fun q => by
      rw [Nat.testBit_or, Bool.or_eq_true, ba.2 k, bb.2 k] at q
      omega)
    have hb : (b : Int) ≠ 0 ↔ von g k P Q T = true := by
      unfold von
      rw [decide_eq_true_iff, cnt_pos]
      constructor
      · intro q
        obtain ⟨i, hi⟩ := Nat.exists_testBit_of_ne_zero (show b ≠ 0 by omega)
        have := (bb.2 i).mp hi
        exact ⟨i, this.1, this.2⟩
      · intro ⟨i, i1, i2⟩ q
        have := (bb.2 i).mpr ⟨i1, i2⟩
        rw [show b = 0 by omega, Nat.zero_testBit] at this
        cases this
    rcases t_stk_e (by omega) (by omega) (by omega) (by omega) hN16 hN16 hN (Nat.le_refl _) h b0 b1 b2 b3 b4 b5 b6 b7 b8 b9 with ⟨z, e⟩ | ⟨z, e⟩
    · rw [bor_n (lt16 ba.1) (lt16 bb.1), bsl1 _ (by omega), bor_n (lt16 ab) (Nat.pow_lt_pow_right (by decide) (by omega))] at e
      refine Or.inl ⟨_, e, Nat.or_lt_two_pow (lt16 ab) (Nat.pow_lt_pow_right (by decide) (by omega)), fun v hv' => ?_, ?_⟩
      · rw [tbor, Bool.or_eq_true, decide_eq_true_iff, ← hv v hv']
        exact ⟨fun x => x.resolve_right (by omega), Or.inl⟩
      · rw [tbor, Bool.or_eq_true, decide_eq_true_iff, ← hb]
        exact ⟨fun _ => z, fun _ => Or.inr rfl⟩
    · rw [bor_n (lt16 ba.1) (lt16 bb.1), borz (lt16 ab)] at e
      refine Or.inl ⟨_, e, lt16 ab, hv, ?_⟩
      rw [nk, ← hb]
      exact ⟨fun x => (by cases x), fun x => absurd z x⟩
end Ent
