/-! The law: from its loop to its end -/
section LawT
variable {l : Launch} {D : va_G} {A : Nat → Prop} {sv : Nat → Int32} {ex : Nat → Nat} {L : Nat}
noncomputable abbrev yG (l : Launch) (D : va_G) (A : Nat → Prop) (sv : Nat → Int32) (ex : Nat → Nat) (L : Nat) : xG := (xXG l D A sv ex L, fun h0 => dv xcode h0 sv xmeth (xel L) xeb)
theorem yW : cW sv xcode xmeth xobj (xel L) xeb (yG l D A sv ex L) := ⟨⟨xGo_1 xgw_good xTab, xGo_2⟩, fun _ => rfl⟩
theorem yins_z : ∀ c J, xg yINS c = some J → ycn J.1 = 0 ∧ ysn J.1 = 0 := by
  intro c J hJ
  have h := xall_get yINS (fun _ J => Nat.ble 1 J.1) (by decide +kernel) c J hJ
  have h : 1 ≤ J.1 := xleb h
  obtain ⟨m, hm⟩ : ∃ m, J.1 = m + 1 := ⟨J.1 - 1, by omega⟩
  rw [hm]
  exact ⟨rfl, rfl⟩
theorem yins_ok (hL : L ≤ 3072) : ∀ i, i < 234 → ∀ I, xg yINS i = some I → aInsOK (yG l D A sv ex L) xh2 270 ycn ysn ytyt ytyp (aGSd sv (xel L) (gGJ (yXG sv L) yfam yAT 0)) I := by
  have hB := fun π => yBase (sv := sv) (L := L) (G := yG l D A sv ex L) (by omega) yW π
  refine ains_all2 (hB 0) (i0 := 217) (fun i hi hn => ych_all i hi hn) (fun J hJ => ?_) (fun c J _ hJ => yins_z c J hJ)
  have e : yI_217 = J := Option.some.inj hJ
  rw [← e]
  exact apot_ok hB rfl ych_pot
theorem yins_wf : ∀ c J, c < 234 → xg yINS c = some J → awfI J = true := by
  intro c J hc hJ
  by_cases e : c = 217
  · subst e
    have e : yI_217 = J := Option.some.inj hJ
    rw [← e]
    exact (xcnb ych_pot).1
  · have := ych_all c hc e
    unfold ych achI at this
    rw [hJ] at this
    exact (xcnb this).1
def yr0 : List Int := [0, 0]
def yrho (L : Nat) : Nat → Int
  | 0 => (L : Int)
  | s + 1 => yr0.getD s 0
noncomputable def ymv (a : av) (w : xv) : Bool := match a.1, a.2.2.2 with
  | 0, [(s + 1, 1)] => cond (Nat.beq w.1 0) (cond (zeq a.2.2.1 0) (zeq (ynm w) (yr0.getD s 0)) false) false
  | _, _ => false
theorem ymv_ok {a : av} {w : xv} (h : ymv a w = true) : avR ytyt (yrho L) a (0, ynm w) ∧ w.1 = 0 ∨ ¬ cI (ynm w) := by
  obtain ⟨t, u, e⟩ := a
  obtain ⟨e0, el⟩ := e
  unfold ymv at h
  dsimp only at h
  split at h
  · rename_i s
    obtain ⟨h1, h⟩ := xcnb h
    obtain ⟨h2, h3⟩ := xcnb h
    have h2 := zeq_iff.mp h2
    have h3 := zeq_iff.mp h3
    by_cases hc : cI (ynm w)
    · refine Or.inl ⟨?_, xeqb h1⟩
      have ee : ev (yrho L) (e0, [(s + 1, 1)]) = ynm w := by
        show e0 + (1 * yr0.getD s 0 + 0) = ynm w
        rw [h2, h3]
        omega
      show (0, ynm w) = (0, ev (yrho L) (e0, [(s + 1, 1)])) ∧ cI (ev (yrho L) (e0, [(s + 1, 1)]))
      rw [ee]
      exact ⟨rfl, hc⟩
    · exact Or.inr hc
  · cases h
noncomputable def ymc (m : am) : Bool := cond (anl m.2.1.2) (cond (anl m.2.2.1.2) (match xg ytyt m.2.1.1.toNat with
    | none => false
    | some t => match xg xh2 m.2.1.1.toNat with
      | none => false
      | some q => match xg q.2.2 m.2.2.1.1.toNat with
        | none => false
        | some w => cond (cond (Nat.beq t m.1) (cond (zle 0 m.2.1.1) (zle 0 m.2.2.1.1) false) false) (cond (cond (zle (-2147483648) (ynm w)) (zlt (ynm w) 2147483648) false) (ymv m.2.2.2 w) false) false) false) false
theorem ymc_ok {m : am} (h : ymc m = true) : amR xh2 ytyt (yrho L) yg0 m := by
  obtain ⟨h1, h⟩ := xcnb h
  obtain ⟨h2, h⟩ := xcnb h
  have h1 := anil h1
  have h2 := anil h2
  cases ht : xg ytyt m.2.1.1.toNat with
  | none => rw [ht] at h; cases h
  | some t =>
    rw [ht] at h
    dsimp only at h
    cases hq : xg xh2 m.2.1.1.toNat with
    | none => rw [hq] at h; cases h
    | some q =>
      rw [hq] at h
      dsimp only at h
      cases hw : xg q.2.2 m.2.2.1.1.toNat with
      | none => rw [hw] at h; cases h
      | some w =>
        rw [hw] at h
        dsimp only at h
        obtain ⟨h3, h⟩ := xcnb h
        obtain ⟨h4, h5⟩ := xcnb h
        obtain ⟨h6, h7⟩ := xcnb h3
        obtain ⟨h8, h9⟩ := xcnb h7
        obtain ⟨c1, c2⟩ := xcnb h4
        have hc : cI (ynm w) := ⟨zle_iff.mp c1, zlt_iff.mp c2⟩
        have h8 := zle_iff.mp h8
        have h9 := zle_iff.mp h9
        rcases ymv_ok (L := L) h5 with ⟨k1, k2⟩ | k
        · refine ⟨m.2.1.1.toNat, m.2.2.1.1.toNat, (0, ynm w), ?_, ?_, ?_, ⟨q, w, hq, hw, ?_⟩, k1⟩
          · unfold ev
            rw [h1]
            show m.2.1.1 + 0 = _
            omega
          · unfold ev
            rw [h2]
            show m.2.2.1.1 + 0 = _
            omega
          · rw [ht, xeqb h6]
          · rw [yg0_at hq hw]
            unfold cval
            rw [k2]
            rfl
        · exact absurd hc k
theorem yen_ok : ∀ (l : List (Int × Int)) (r : List Int), (l.zip r).all (fun q => cond (zle q.1.1 q.2) (zle q.2 q.1.2) false) = true → l.length ≤ r.length → ∀ (s : Nat) (i : Int × Int), agt l s = some i → i.1 ≤ r.getD s 0 ∧ r.getD s 0 ≤ i.2
  | [], _, _, _, s, i, h => by cases h
  | q :: l, [], _, hl, _, _, _ => by exact absurd hl (Nat.not_succ_le_zero _)
  | q :: l, z :: r, h, hl, 0, i, hi => by
    have e : q = i := Option.some.inj hi
    subst e
    have h := List.all_eq_true.mp h (q, z) List.mem_cons_self
    obtain ⟨h1, h2⟩ := xcnb h
    exact ⟨zle_iff.mp h1, zle_iff.mp h2⟩
  | q :: l, z :: r, h, hl, s + 1, i, hi => yen_ok l r (by
      rw [List.all_eq_true]
      exact fun x hx => List.all_eq_true.mp h x (List.mem_cons_of_mem _ hx)) (Nat.le_of_succ_le_succ hl) s i hi
noncomputable def yfc (f : ae) : Bool := cond (f.2.all (fun q => Nat.ble 1 q.1)) (zle (f.1 + evl (fun s => yr0.getD (s - 1) 0) f.2) 0) false
theorem yfl_ok : ∀ l : List (Nat × Int), l.all (fun q => Nat.ble 1 q.1) = true → evl (yrho L) l = evl (fun s => yr0.getD (s - 1) 0) l
  | [], _ => rfl
  | q :: l, h => by
    have h1 : 1 ≤ q.1 := xleb (List.all_eq_true.mp h q List.mem_cons_self)
    have h2 := yfl_ok l (by
      rw [List.all_eq_true]
      exact fun x hx => List.all_eq_true.mp h x (List.mem_cons_of_mem _ hx))
    obtain ⟨m, hm⟩ : ∃ m, q.1 = m + 1 := ⟨q.1 - 1, by omega⟩
    show q.2 * yrho L q.1 + evl (yrho L) l = q.2 * yr0.getD (q.1 - 1) 0 + evl (fun s => yr0.getD (s - 1) 0) l
    rw [h2, hm]
    rfl
theorem yfc_ok {f : ae} (h : yfc f = true) : ev (yrho L) f ≤ 0 := by
  obtain ⟨h1, h2⟩ := xcnb h
  have h2 := zle_iff.mp h2
  unfold ev
  rw [yfl_ok f.2 h1]
  exact h2
noncomputable def ygc (x : gho) : Bool := match x.1 with
  | 1 => Nat.beq x.2.2.1 0
  | 72 => cond (Nat.beq x.2.1 0) true (Nat.beq x.2.1 9999)
  | 70 => cond (x.2.2.2.2.all (fun q => Nat.ble 1 q.1)) (zle (x.2.2.2.1 + evl (fun s => yr0.getD (s - 1) 0) x.2.2.2.2) 0) false
  | _ => false
set_option maxRecDepth 100000 in
theorem ykeys : ∀ i : Nat, i < 25 → yg0 89 i = kv i := by decide +kernel
set_option maxRecDepth 100000 in
theorem yst0 : ((yg0 3 0 = 0 ∧ yg0 254 0 = 0 ∧ yg0 3 3 = 0 ∧ yg0 254 1 = 0) ∧ yg0 0 9 = 0 ∧ yg0 253 39 = 0) ∧ (yg0 3 9 = 0 ∧ yg0 254 2 = 0) ∧ (yg0 254 3 = yg0 3 5 ∧ yg0 254 4 = yg0 3 6 ∧ yg0 254 5 = yg0 3 7 ∧ yg0 254 6 = yg0 3 8) ∧ ((0 ≤ yg0 3 5 ∧ yg0 3 5 ≤ 99) ∧ (0 ≤ yg0 3 6 ∧ yg0 3 6 ≤ 99) ∧ (0 ≤ yg0 3 7 ∧ yg0 3 7 ≤ 60)) ∧ yg0 8 0 = 0 ∧ yg0 254 7 = -1 := by decide +kernel
theorem yRX0 : RX 3 0 260 yg0 := by
  obtain ⟨⟨⟨a1, a2, a3, a4⟩, -⟩, ⟨b1, b2⟩, c1, c2, c3, c4⟩ := yst0
  unfold RX
  rw [vc_3, vd_0]
  exact ⟨0, 0, 0, ⟨⟨by decide, by decide, by decide⟩, ⟨a1, a3, b1⟩, ⟨a2, a4, b2⟩, c1, fun i hi => absurd hi (Nat.not_lt_zero i), fun i hi => absurd hi (Nat.not_lt_zero i), fun k hk => absurd hk (Nat.not_lt_zero k)⟩, ⟨c2, fun i hi => absurd hi (Nat.not_lt_zero i), fun i hi => absurd hi (Nat.not_lt_zero i), fun k hk => absurd hk (Nat.not_lt_zero k), fun i k _ hk => absurd hk (Nat.not_lt_zero k)⟩, Or.inl ⟨c3, c4⟩⟩
theorem yR0 : yR 0 yg0 := by
  obtain ⟨⟨⟨a1, a2, a3, a4⟩, a5, a6⟩, -⟩ := yst0
  exact ⟨⟨⟨0, 0, ⟨by decide, by decide⟩, ⟨a1, a2, a3, a4⟩, fun i hi => absurd hi (Nat.not_lt_zero i), fun i hi => absurd hi (Nat.not_lt_zero i)⟩, yRX0⟩, 0, by decide, a5, a6, fun i hi => absurd hi (Nat.not_lt_zero i)⟩
set_option maxRecDepth 100000 in
theorem yRF0 : RF yg0 := by
  have h : yg0 88 10 = yg0 253 16 ∧ yg0 88 11 = yg0 253 17 := by decide +kernel
  exact h
theorem ygc_ok {x : gho} (h : ygc x = true) : aGSd sv (xel L) (gGJ (yXG sv L) yfam yAT 0) x (yrho L) yg0 := by
  obtain ⟨xk, xa, xb, xe⟩ := x
  unfold ygc at h
  dsimp only at h
  split at h
  · have e2 : xb = 0 := xeqb h
    subst e2
    exact (aGSd_j rfl).mpr (yRI xa)
  · rcases xcnt h with h | h
    · have e0 : xa = 0 := xeqb h
      subst e0
      exact (aGSd_x rfl).mpr yR0
    · have e0 : xa = 9999 := xeqb h
      subst e0
      exact (aGSd_x rfl).mpr yRF0
  · obtain ⟨h1, h2⟩ := xcnb h
    have h2 := zle_iff.mp h2
    have e : ev (yrho L) xe = xe.1 + evl (fun s => yr0.getD (s - 1) 0) xe.2 := by unfold ev; rw [yfl_ok xe.2 h1]
    refine (aGSd_x rfl).mpr ?_
    refine ⟨fun j hj => ?_, ykeys⟩
    have hj : (j : Int) < ev (yrho L) xe := hj
    omega
  · cases h
theorem ylaw18 (hL : L ≤ 3072) : cT (yG l D A sv ex L) xh2 270 0 14 18 [(0, (6, 0)), (1, (4, 0)), (2, (4, 253)), (3, (0, 0))] [] yg0 270 13086 (aQi xh2 ytyt ytyp (aGSd sv (xel L) (gGJ (yXG sv L) yfam yAT 0)) yLAW (yrho L) yg0) := by
  refine acut_ok (i := 234) (f := 6000) (I := yLAW) (yBase (sv := sv) (L := L) (G := yG l D A sv ex L) (by omega) yW 0) ych_law (fun pc L' P hq hP => List.all_eq_true.mp (yck_all (pc, L') hq) P hP) yins_wf (fun c J _ hJ => yins_z c J hJ) (fun c J hc hJ => yins_ok hL c hc J hJ) _ yg0 6146 18 [yLC_18] yLC_18 rfl List.mem_cons_self _ yg0 _ [] 14 (aag.rf _ _) ?_ yInv (fun _ _ _ => rfl) (Nat.le_refl _) ?_
  · refine ⟨⟨rfl, rfl, rfl, ⟨0, rfl, rfl, rfl⟩, rfl, ⟨253, rfl, rfl, rfl⟩, rfl, ⟨rfl, ?_⟩, trivial⟩, trivial, trivial, ?_, ?_, ?_, ?_⟩
    · show cI (0 + (1 * 0 + 0))
      exact ⟨by decide, by decide⟩
    · intro m hm
      exact ymc_ok (List.all_eq_true.mp (show yLC_18.2.2.2.1.all ymc = true from by decide +kernel) m hm)
    · intro s i hs
      match s, hs with
      | 0, hs =>
        have e : ((0, 3072) : Int × Int) = i := Option.some.inj hs
        subst e
        exact ⟨by show (0 : Int) ≤ (L : Int); omega, by show (L : Int) ≤ 3072; omega⟩
      | s + 1, hs => exact yen_ok (yLC_18.2.2.2.2.1.drop 1) yr0 (by decide +kernel) (by decide +kernel) s i hs
    · intro f hf
      exact yfc_ok (List.all_eq_true.mp (show yLC_18.2.2.2.2.2.1.all yfc = true from by decide +kernel) f hf)
    · refine List.forall_mem_cons.mpr ⟨rfl, ?_⟩
      intro x hx
      exact ygc_ok (List.all_eq_true.mp (show (yLC_18.2.2.2.2.2.2.1.drop 1).all ygc = true from by decide +kernel) x hx)
  · show (6145 : Int) + ((-2) * 0 + 0) < 6146
    decide
/-- every length: from the first instruction, all ends answer 1 -/
theorem xlawL (hL : L ≤ 3072) : ∃ M : List xleaf, xXG l D A sv ex L 0 14 0 [(0, (6, 0))] [] [] xh0 0 0 0 M ∧ ∀ q ∈ M, q.2.2.2 = some (0, 1) := by
  obtain ⟨o, hq, -, hu⟩ := ylaw18 (l := l) (D := D) (A := A) (sv := sv) (ex := ex) hL (dset (dset (dset (dset (fun _ => ((0 : Nat), (0 : Int))) 0 (6, 0)) 1 (4, 0)) 2 (4, 253)) 3 (0, 0)) (fun q hq => by
    rcases List.mem_cons.mp hq with e | hq
    · rw [e]; rfl
    · rcases List.mem_cons.mp hq with e | hq
      · rw [e]; rfl
      · rcases List.mem_cons.mp hq with e | hq
        · rw [e]; rfl
        · rw [List.mem_singleton.mp hq]; rfl)
  obtain ⟨h', g', rv, h1, ⟨eg, er⟩, h3⟩ := hu xh2 yHR
  rw [← eg, ← er] at hq
  obtain ⟨-, -, P, hP, ρ', -, hp⟩ := hq
  have eP : P = yLP := List.mem_singleton.mp hP
  subst eP
  have hr : rv = some (0, 1) := by
    have hv := hp.2.2.1
    cases rv with
    | none => exact hv.elim
    | some v =>
      have hv : v = (0, ev ρ' ((1, []) : ae)) ∧ cI (ev ρ' ((1, []) : ae)) := hv
      rw [hv.1, show ev ρ' ((1, []) : ae) = 1 from ecst_ev ρ' 1]
  subst hr
  refine ⟨_, xlaw0 (xGo_2 0 14 18 _ _ [] [] [] xh2 270 270 13086 _ ?_ trivial h3), ?_⟩
  · intro q hq
    refine ⟨q, ?_, rfl, Or.inl rfl⟩
    have hq : q ∈ [(0, (6, 0)), (1, (4, 0)), (2, (4, 253)), (3, (0, 0))] := hq
    revert q
    decide
  · intro q hq
    have e := List.mem_singleton.mp hq
    rw [e]
    rfl
end LawT
