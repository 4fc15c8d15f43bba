/-! The first cells: their numbers, their types, their columns -/
noncomputable def ynm (w : xv) : Int := match w.1 with
  | 0 => cond (Nat.blt w.2 2147483648) (Int.ofNat w.2) (Int.ofNat w.2 - 4294967296)
  | 2 => cond (Nat.blt w.2 9223372036854775808) (Int.ofNat w.2) (Int.ofNat w.2 - 18446744073709551616)
  | _ => 0
noncomputable def yg0 : cg := fun k j => match xg xh2 k with
  | none => 0
  | some q => match xg q.2.2 j with
    | none => 0
    | some w => ynm w
theorem yg0_at {k j : Nat} {q : xcell} {w : xv} (h1 : xg xh2 k = some q) (h2 : xg q.2.2 j = some w) : yg0 k j = ynm w := by
  unfold yg0
  rw [h1]
  dsimp only
  rw [h2]
noncomputable def ylp (p : Nat → Bool) (n : Nat) : Bool := Nat.rec (motive := fun _ => Bool) true (fun k r => cond (p k) r false) n
theorem ylp_ok {p : Nat → Bool} : ∀ {n : Nat}, ylp p n = true → ∀ j : Nat, j < n → p j = true
  | 0, _, j, hj => absurd hj (Nat.not_lt_zero j)
  | n + 1, h, j, hj => by
    obtain ⟨h1, h2⟩ := xcnb (show cond (p n) (ylp p n) false = true from h)
    by_cases e : j = n
    · rw [e]; exact h1
    · exact ylp_ok h2 j (by omega)
noncomputable def ywv (w : xv) : Bool := match w.1 with
  | 0 => Nat.blt w.2 4294967296
  | 2 => Nat.blt w.2 18446744073709551616
  | _ => true
theorem ywv_ok : ∀ {w : xv}, ywv w = true → cpl w (ynm w) = w
  | (0, n), h => by
    have h : n < 4294967296 := xltb h
    show (0, c32 (cond (Nat.blt n 2147483648) (Int.ofNat n) (Int.ofNat n - 4294967296))) = (0, n)
    cases hb : Nat.blt n 2147483648 with
    | true =>
      show (0, c32 (Int.ofNat n)) = (0, n)
      unfold c32
      congr 1
      show ((n : Int) % 4294967296).toNat = n
      omega
    | false =>
      show (0, c32 (Int.ofNat n - 4294967296)) = (0, n)
      unfold c32
      congr 1
      show (((n : Int) - 4294967296) % 4294967296).toNat = n
      omega
  | (1, _), _ => rfl
  | (2, n), h => by
    have h : n < 18446744073709551616 := xltb h
    show (2, c64 (cond (Nat.blt n 9223372036854775808) (Int.ofNat n) (Int.ofNat n - 18446744073709551616))) = (2, n)
    cases hb : Nat.blt n 9223372036854775808 with
    | true =>
      show (2, c64 (Int.ofNat n)) = (2, n)
      unfold c64
      congr 1
      show ((n : Int) % 18446744073709551616).toNat = n
      omega
    | false =>
      show (2, c64 (Int.ofNat n - 18446744073709551616)) = (2, n)
      unfold c64
      congr 1
      show (((n : Int) - 18446744073709551616) % 18446744073709551616).toNat = n
      omega
  | (_ + 3, _), _ => rfl
noncomputable def ycl (_ : Nat) (q : xcell) : Bool :=
  cond (xall q.2.2 (fun _ w => ywv w)) (cond (Nat.blt q.2.1 2147483648) (ylp (fun j => match xg q.2.2 j with
    | none => false
    | some w => cond (cond (Nat.beq q.1 13 || Nat.beq q.1 15) (Nat.beq w.1 0) true) (cond (cond (Nat.beq q.1 14) (Nat.beq w.1 2) true) (cond (Nat.ble 20 q.1) (Nat.beq w.1 4) true) false) false) q.2.1) false) false
set_option maxRecDepth 100000 in
theorem ycl_all : xall xh2 ycl = true := by decide +kernel
theorem yHR : cHR xh2 xh2 yg0 := by
  intro k q hq
  have h := xall_get _ _ ycl_all k q hq
  obtain ⟨h1, -⟩ := xcnb h
  refine ⟨q.2.2, hq, fun j w hw => ?_⟩
  rw [yg0_at hq hw, ywv_ok (xall_get _ _ h1 j w hw)]
  exact hw
theorem yH0 : cH0 xh2 := by
  intro k q hq
  have h := xall_get _ _ ycl_all k q hq
  obtain ⟨-, h⟩ := xcnb h
  obtain ⟨h1, h2⟩ := xcnb h
  refine ⟨xltb h1, fun j hj => ?_⟩
  have h3 := ylp_ok h2 j hj
  cases hw : xg q.2.2 j with
  | none => rw [hw] at h3; cases h3
  | some w =>
    rw [hw] at h3
    dsimp only at h3
    obtain ⟨a1, h3⟩ := xcnb h3
    obtain ⟨a2, a3⟩ := xcnb h3
    refine ⟨w, rfl, fun e => ?_, fun e => ?_, fun e => ?_⟩
    · have : (Nat.beq q.1 13 || Nat.beq q.1 15) = true := by
        rcases e with e | e <;> rw [e] <;> rfl
      rw [this] at a1
      exact xeqb a1
    · rw [e] at a2
      exact xeqb a2
    · rw [show Nat.ble 20 q.1 = true from Nat.ble_eq_true_of_le e] at a3
      exact xeqb a3
noncomputable def ywd (k t : Nat) : Bool := match xg xh2 k with
  | none => false
  | some q => match xg ytyp t with
    | none => false
    | some T => cond (Nat.beq T.1 q.1) (cond (Nat.beq T.2.1 q.2.1) (cond (Nat.blt q.2.1 2147483648) (cond (zle T.2.2.1.1 (Int.ofNat k)) (cond (zle (Int.ofNat k) T.2.2.1.2) (ylp (fun j => match xg q.2.2 j with
      | none => false
      | some w => match apl T j with
        | none => false
        | some u => cond (Nat.beq w.1 u.1) (cond (Nat.beq u.1 0) true (cond (Nat.beq u.1 2) true (cond (Nat.beq u.1 4) (match xg ytyt w.2 with
          | none => false
          | some t' => Nat.beq t' u.2) false))) false) q.2.1) false) false) false) false) false
set_option maxRecDepth 100000 in
theorem ywd_all : xall ytyt ywd = true := by decide +kernel
theorem yWd : aWd xh2 ytyt ytyp := by
  intro k t ht
  have h := xall_get _ _ ywd_all k t ht
  unfold ywd at h
  cases hq : xg xh2 k with
  | none => rw [hq] at h; cases h
  | some q =>
    rw [hq] at h
    dsimp only at h
    cases hT : xg ytyp t with
    | none => rw [hT] at h; cases h
    | some T =>
      rw [hT] at h
      dsimp only at h
      obtain ⟨h1, h⟩ := xcnb h
      obtain ⟨h2, h⟩ := xcnb h
      obtain ⟨h3, h⟩ := xcnb h
      obtain ⟨h4, h⟩ := xcnb h
      obtain ⟨h5, h⟩ := xcnb h
      refine ⟨q, T, rfl, rfl, xeqb h1, xeqb h2, xltb h3, zle_iff.mp h4, zle_iff.mp h5, fun j hj => ?_⟩
      have h6 := ylp_ok h j hj
      cases hw : xg q.2.2 j with
      | none => rw [hw] at h6; cases h6
      | some w =>
        rw [hw] at h6
        dsimp only at h6
        cases hu : apl T j with
        | none => rw [hu] at h6; cases h6
        | some u =>
          rw [hu] at h6
          dsimp only at h6
          obtain ⟨a1, a2⟩ := xcnb h6
          refine ⟨w, u, rfl, rfl, xeqb a1, ?_⟩
          rcases xcnt a2 with a2 | a2
          · exact Or.inl (xeqb a2)
          · rcases xcnt a2 with a2 | a2
            · exact Or.inr (Or.inl (xeqb a2))
            · obtain ⟨a3, a4⟩ := xcnb a2
              refine Or.inr (Or.inr ⟨xeqb a3, ?_⟩)
              cases hx : xg ytyt w.2 with
              | none => rw [hx] at a4; cases a4
              | some t' =>
                rw [hx] at a4
                rw [show t' = u.2 from xeqb a4]
noncomputable def ynr (z : Int) : Option (Nat × Nat) → Bool
  | none => true
  | some u => cond (cond (Nat.beq u.1 0) (cond (zle (-2147483648) z) (zlt z 2147483648) false) true) (cond (Nat.beq u.1 2) (cond (zle (-9223372036854775808) z) (zlt z 9223372036854775808) false) true) false
noncomputable def yco (j z : Int) (T : aty) : Bool := T.2.2.2.1.all (fun b => cond (cond (zle b.1 j) (zle j b.2.1) false) (b.2.2.all (fun c => cond (cond (zle c.1 j) (cond (zle j c.2.1) (zeq ((j - c.1) % c.2.2.1) 0) false) false) (cond (zle c.2.2.2.1 z) (zle z c.2.2.2.2) false) true)) true)
noncomputable def yiv (k t : Nat) : Bool := match xg xh2 k with
  | none => false
  | some q => match xg ytyp t with
    | none => false
    | some T => cond (Nat.beq T.2.1 q.2.1) (cond (T.2.2.2.1.all (fun b => zlt b.2.1 (Int.ofNat q.2.1))) (ylp (fun j => match xg q.2.2 j with
      | none => false
      | some w => cond (ynr (ynm w) (apl T j)) (yco (Int.ofNat j) (ynm w) T) false) q.2.1) false) false
set_option maxRecDepth 100000 in
theorem yiv_all : xall ytyt yiv = true := by decide +kernel
theorem yInv : aInv ytyt ytyp yg0 := by
  intro k t T ht hT
  have h := xall_get _ _ yiv_all k t ht
  unfold yiv at h
  rw [hT] at h
  cases hq : xg xh2 k with
  | none => rw [hq] at h; cases h
  | some q =>
    rw [hq] at h
    dsimp only at h
    obtain ⟨h1, h⟩ := xcnb h
    obtain ⟨h2, h⟩ := xcnb h
    have e1 : T.2.1 = q.2.1 := xeqb h1
    have at_ : ∀ j : Nat, j < q.2.1 → ∃ w, yg0 k j = ynm w ∧ ynr (ynm w) (apl T j) = true ∧ yco (Int.ofNat j) (ynm w) T = true := by
      intro j hj
      have h6 := ylp_ok h j hj
      cases hw : xg q.2.2 j with
      | none => rw [hw] at h6; cases h6
      | some w =>
        rw [hw] at h6
        obtain ⟨a1, a2⟩ := xcnb h6
        exact ⟨w, yg0_at hq hw, a1, a2⟩
    refine ⟨fun b hb c hc j j1 j2 hj => ?_, fun j u hj hu => ?_⟩
    · have hn := zlt_iff.mp (List.all_eq_true.mp h2 b hb)
      have hn : b.2.1 < (q.2.1 : Int) := hn
      obtain ⟨w, e, -, a2⟩ := at_ j (by omega)
      have a3 := List.all_eq_true.mp a2 b hb
      rw [show zle b.1 (Int.ofNat j) = true from zle_iff.mpr j1, show zle (Int.ofNat j) b.2.1 = true from zle_iff.mpr j2] at a3
      have a4 := List.all_eq_true.mp a3 c hc
      obtain ⟨c1, c2, c3⟩ := hj
      rw [show zle c.1 (Int.ofNat j) = true from zle_iff.mpr c1, show zle (Int.ofNat j) c.2.1 = true from zle_iff.mpr c2, show zeq ((Int.ofNat j - c.1) % c.2.2.1) 0 = true from zeq_iff.mpr c3] at a4
      obtain ⟨a5, a6⟩ := xcnb a4
      rw [e]
      exact ⟨zle_iff.mp a5, zle_iff.mp a6⟩
    · obtain ⟨w, e, a1, -⟩ := at_ j (by omega)
      rw [hu] at a1
      obtain ⟨a2, a3⟩ := xcnb (show cond (cond (Nat.beq u.1 0) (cond (zle (-2147483648) (ynm w)) (zlt (ynm w) 2147483648) false) true) (cond (Nat.beq u.1 2) (cond (zle (-9223372036854775808) (ynm w)) (zlt (ynm w) 9223372036854775808) false) true) false = true from a1)
      rw [e]
      refine ⟨fun eu => ?_, fun eu => ?_⟩
      · rw [eu] at a2
        obtain ⟨a4, a5⟩ := xcnb (show cond (zle (-2147483648) (ynm w)) (zlt (ynm w) 2147483648) false = true from a2)
        exact ⟨zle_iff.mp a4, zlt_iff.mp a5⟩
      · rw [eu] at a3
        obtain ⟨a4, a5⟩ := xcnb (show cond (zle (-9223372036854775808) (ynm w)) (zlt (ynm w) 9223372036854775808) false = true from a3)
        exact ⟨zle_iff.mp a4, zlt_iff.mp a5⟩
/-! the families of rows -/
noncomputable def yft (_ : Nat) (F : afam) : Bool :=
  cond (match xg ytyt F.1.2.1 with
    | none => false
    | some t => Nat.beq t F.1.1) (cond (match xg ytyt F.2.1.2.1 with
      | none => false
      | some t => Nat.beq t F.2.1.1) (F.2.2.1.all (fun col => match xg ytyt col.2.1 with
        | none => false
        | some t => Nat.beq t col.1)) false) false
set_option maxRecDepth 100000 in
theorem yft_all : xall yfam yft = true := by decide +kernel
theorem ysm {o : Option Nat} {a : Nat} (h : (match o with
    | none => false
    | some t => Nat.beq t a) = true) : o = some a := by
  cases o with
  | none => cases h
  | some t => rw [show t = a from xeqb h]
theorem yfT : gfT ytyt yfam := by
  intro f F hF
  have h := xall_get _ _ yft_all f F hF
  obtain ⟨h1, h⟩ := xcnb h
  obtain ⟨h2, h3⟩ := xcnb h
  exact ⟨ysm h1, ysm h2, fun col hc => ysm (List.all_eq_true.mp h3 col hc)⟩
noncomputable def yfn (_ : Nat) (F : afam) : Bool :=
  cond (cond (Nat.beq F.2.1.2.1 F.1.2.1) (Nat.blt F.1.2.2 F.2.1.2.2.1) true) (F.2.2.1.all (fun col => cond (Nat.beq col.2.1 F.1.2.1) (Nat.blt F.1.2.2 col.2.2.1) true)) false
set_option maxRecDepth 100000 in
theorem yfn_all : xall yfam yfn = true := by decide +kernel
theorem yno {a b c d : Nat} (h : cond (Nat.beq a b) (Nat.blt c d) true = true) : a ≠ b ∨ c < d := by
  by_cases e : a = b
  · rw [show Nat.beq a b = true from xnb1 e] at h
    exact Or.inr (xltb h)
  · exact Or.inl e
theorem yfN : gfN yfam := by
  intro f F hF
  have h := xall_get _ _ yfn_all f F hF
  obtain ⟨h1, h2⟩ := xcnb h
  exact ⟨yno h1, fun col hc => yno (List.all_eq_true.mp h2 col hc)⟩
set_option maxRecDepth 100000 in
theorem ya1_all : xall ytyt (fun k t => cond (Nat.beq t ytAT) (Nat.beq k yAT) true) = true := by decide +kernel
theorem yA1 : ∀ k, xg ytyt k = some ytAT → k = yAT := by
  intro k hk
  have h := xall_get _ _ ya1_all k ytAT hk
  rw [show Nat.beq ytAT ytAT = true from xnb1 rfl] at h
  exact xeqb h
set_option maxRecDepth 100000 in
theorem yA2 : xg ytyt yAT = some ytAT := by decide +kernel
set_option maxRecDepth 100000 in
theorem yri_all : xall yfam (fun _ F => zle (yg0 F.1.2.1 F.1.2.2) 0) = true := by decide +kernel
theorem yRI : ∀ (f : Nat) (F : afam), xg yfam f = some F → gRI F 0 yg0 := by
  intro f F hF
  have h := zle_iff.mp (xall_get _ _ yri_all f F hF)
  exact ⟨by omega, fun r hr => by omega⟩
