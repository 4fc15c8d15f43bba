/-! The law: from its loop to its end -/
section LawT
variable {l : Launch} {D : va_G} {A : Nat → Prop} {sv : Nat → Int32} {ex : Nat → Nat} {L : Nat}
theorem yW : cW sv xcode xmeth xobj (xel L) xeb (xXG l D A sv ex L) := ⟨xGo_1 xgw_good xTab, xGo_2⟩
theorem yins_z : ∀ c J, xg yINS c = some J → ycn J.1 = 0 ∧ ysn J.1 = 0 := by
  intro c J hJ
  have h := xall_get yINS (fun _ J => Nat.ble 1 J.1) (by decide +kernel) c J hJ
  have h : 1 ≤ J.1 := xleb h
  obtain ⟨m, hm⟩ : ∃ m, J.1 = m + 1 := ⟨J.1 - 1, by omega⟩
  rw [hm]
  exact ⟨rfl, rfl⟩
theorem yins_ok (hL : L ≤ 3072) : ∀ i, i < 222 → ∀ I, xg yINS i = some I → aInsOK (xXG l D A sv ex L) xh2 270 ycn ysn ytyt ytyp (aGSd sv (xel L) (gGH yfam yAT 0)) I := by
  have hB := fun π => yBase (sv := sv) (L := L) (G := xXG l D A sv ex L) (by omega) yW π
  refine ains_all2 (hB 0) (i0 := 207) (fun i hi hn => ych_all i hi hn) (fun J hJ => ?_) (fun c J _ hJ => yins_z c J hJ)
  have e : yI_207 = J := Option.some.inj hJ
  rw [← e]
  exact apot_ok hB rfl ych_pot
theorem yins_wf : ∀ c J, c < 222 → xg yINS c = some J → awfI J = true := by
  intro c J hc hJ
  by_cases e : c = 207
  · subst e
    have e : yI_207 = J := Option.some.inj hJ
    rw [← e]
    exact (xcnb ych_pot).1
  · have := ych_all c hc e
    unfold ych achI at this
    rw [hJ] at this
    exact (xcnb this).1
theorem ylaw18 (hL : L ≤ 3072) : cT (xXG l D A sv ex L) xh2 270 0 14 18 [(0, (6, 0)), (1, (4, 0)), (2, (4, 253)), (3, (0, 0))] [] yg0 270 13086 (aQi xh2 ytyt ytyp (aGSd sv (xel L) (gGH yfam yAT 0)) yLAW (fun s => match s with
    | 0 => (L : Int)
    | _ => 0) yg0) := by
  refine acut_ok (i := 222) (f := 6000) (I := yLAW) (yBase (sv := sv) (L := L) (G := xXG l D A sv ex L) (by omega) yW 0) ych_law (fun pc L' P hq hP => List.all_eq_true.mp (yck_all (pc, L') hq) P hP) yins_wf (fun c J _ hJ => yins_z c J hJ) (fun c J hc hJ => yins_ok hL c hc J hJ) _ yg0 6146 18 [yLC_18] yLC_18 rfl List.mem_cons_self _ yg0 _ [] 14 (aag.rf _ _) ?_ yInv (fun _ _ _ => rfl) (Nat.le_refl _) ?_
  · refine ⟨⟨rfl, rfl, rfl, ⟨0, rfl, rfl, rfl⟩, rfl, ⟨253, rfl, rfl, rfl⟩, rfl, ⟨rfl, ?_⟩, trivial⟩, trivial, trivial, fun _ h => absurd h List.not_mem_nil, ?_, fun _ h => absurd h List.not_mem_nil, ?_⟩
    · show cI (0 + (1 * 0 + 0))
      exact ⟨by decide, by decide⟩
    · intro s i hs
      match s, hs with
      | 0, hs =>
        have e : ((0, 3072) : Int × Int) = i := Option.some.inj hs
        subst e
        exact ⟨by show (0 : Int) ≤ (L : Int); omega, by show (L : Int) ≤ 3072; omega⟩
      | 1, hs =>
        have e : ((0, 3072) : Int × Int) = i := Option.some.inj hs
        subst e
        exact ⟨by show (0 : Int) ≤ 0; decide, by show (0 : Int) ≤ 3072; decide⟩
      | k + 2, hs => cases hs
    · refine List.forall_mem_cons.mpr ⟨rfl, ?_⟩
      intro x hx
      have h1 : x.1 = 1 ∧ x.2.2.1 = 0 := by
        revert x
        decide
      obtain ⟨xk, xa, xb, xe⟩ := x
      obtain ⟨e1, e2⟩ := h1
      have e1 : xk = 1 := e1
      have e2 : xb = 0 := e2
      subst e1; subst e2
      exact yRI xa
  · show (6145 : Int) + ((-2) * 0 + 0) < 6146
    decide
/-- every length: from the first instruction, all ends answer 1 -/
theorem xlawL (hL : L ≤ 3072) : ∃ M : List xleaf, xXG l D A sv ex L 0 14 0 [(0, (6, 0))] [] [] xh0 0 0 0 M ∧ ∀ q ∈ M, q.2.2.2 = some (0, 1) := by
  obtain ⟨h', g', rv, h1, ⟨-, -, P, hP, ρ', -, hp⟩, h3⟩ := ylaw18 (l := l) (D := D) (A := A) (sv := sv) (ex := ex) hL xh2 yHR
  have eP : P = yLP := List.mem_singleton.mp hP
  subst eP
  have hr : rv = some (0, 1) := by
    have hv := hp.2.2.1
    cases rv with
    | none => exact hv.elim
    | some v =>
      have hv : v = (0, ev ρ' ((1, []) : ae)) ∧ cI (ev ρ' ((1, []) : ae)) := hv
      rw [hv.1, show ev ρ' ((1, []) : ae) = 1 from ecst_ev ρ' 1]
  subst hr
  refine ⟨_, xlaw0 (xGo_2 0 14 18 _ _ [] [] [] xh2 270 270 13086 _ ?_ trivial h3), ?_⟩
  · intro q hq
    refine ⟨q, ?_, rfl, Or.inl rfl⟩
    have hq : q ∈ [(0, (6, 0)), (1, (4, 0)), (2, (4, 253)), (3, (0, 0))] := hq
    revert q
    decide
  · intro q hq
    have e := List.mem_singleton.mp hq
    rw [e]
    rfl
end LawT
