/-! What the start gives: the script, the statics, the text, the classes -/
noncomputable def xT51 : Term := Term.field (Term.string "OathTill$Text" 51) "java/lang/String" "value" "[B"
set_option maxRecDepth 100000 in
theorem xtx_el : (List.range 133).all (fun j => decide (Cond.eq (.elem (.field (.string "OathTill$Text" 51) "java/lang/String" "value" "[B") (.int (Int32.ofNat j))) (.int (nI (xeb.getD j 0))) ∈ flatC (Jvm.Cond.and given_1 narrow_1))) = true := by decide +kernel
theorem xeb_map (j : Nat) : (([xeb.map nI] : List (List Int32)).getD 0 []).getD j 0 = nI (xeb.getD j 0) := by
  show (xeb.map nI).getD j 0 = _
  rw [List.getD_eq_getElem?_getD, List.getElem?_map, List.getD_eq_getElem?_getD]
  cases xeb[j]? <;> rfl
theorem xEX_start {s : State} {b L : Nat} {xs : Nat → Int32} (hts : ∀ w ∈ lw_tbl, w.before #[Value.ref b] s = true) (hX : va_X b L xs s s.heap) (hbl : b < s.heap.size) (hgv : (Jvm.Cond.and given_1 narrow_1).before #[Value.ref b] s = true) :
    ∃ ex : Nat → Nat, ex 0 = b ∧ xEX (fun q : Nat => s.heap.size ≤ q) xs ex (xel L) xeb xnest xtxt xovr s := by
  have hs := flat_of_before _ hgv
  have hA : ∀ a : Nat, a < s.heap.size → ¬ (fun q : Nat => s.heap.size ≤ q) a := fun a h => Nat.not_le.mpr h
  obtain ⟨adK, adV, hS, hev⟩ := vk_Sof (args := #[Value.ref b]) (s := s) (N := 1) (tm := fun _ => Term.string "OathTill$Text" 51) (len := [133]) (byt := [xeb.map nI]) (A := fun q : Nat => s.heap.size ≤ q)
    (fun i hi => by
      have e : i = 0 := by omega
      subst e; decide)
    (fun i hi => hs (Cond.exactly (Term.string "OathTill$Text" 51) "java/lang/String") (by decide +kernel))
    (fun i hi => hs (Cond.eq (.field (Term.string "OathTill$Text" 51) "java/lang/String" "coder" "B") (.int 0)) (by decide +kernel))
    (fun i hi => hs (Cond.arrayOf (.field (Term.string "OathTill$Text" 51) "java/lang/String" "value" "[B") .byte) (by decide +kernel))
    (fun i hi => by
      have e : i = 0 := by omega
      subst e
      exact hs (Cond.eq (.length (.field (Term.string "OathTill$Text" 51) "java/lang/String" "value" "[B")) (.int (Int32.ofNat 133))) (by decide +kernel))
    (fun i hi j hj => by
      have e : i = 0 := by omega
      subst e
      rw [xeb_map]
      exact hs _ (of_decide_eq_true (List.all_eq_true.mp xtx_el j (List.mem_range.mpr hj))))
    (fun i j hi hj hij => by omega) hA
  have h0 := hS.1 0 (by decide)
  obtain ⟨d1, d2, d3, d4⟩ := h0
  refine ⟨fun i => match i with
    | 0 => b
    | 1 => adK 0
    | _ => adV 0, rfl, ⟨hX, hbl, hA b hbl⟩, ?_, ?_, ⟨d1, d2, d3, ?_⟩, ?_, ?_, ?_⟩
  · exact va_Zof (hts (.laysStatic "java/lang/String" "COMPACT_STRINGS" "Z") (by decide +kernel)) (hts (.initialized "java/lang/String") (by decide +kernel)) (va_eqi (hs (Cond.eq (.static "java/lang/String" "COMPACT_STRINGS" "Z") (.int 1)) (by decide +kernel))) hA
  · exact va_Zqof (hts (.laysStatic "jdk/internal/util/Preconditions" "SIOOBE_FORMATTER" "Ljava/util/function/BiFunction;") (by decide +kernel)) (hts (.initialized "jdk/internal/util/Preconditions") (by decide +kernel)) (hs (Cond.isRef (.static "jdk/internal/util/Preconditions" "SIOOBE_FORMATTER" "Ljava/util/function/BiFunction;")) (by decide +kernel)) hA
  · have e : (fun j : Nat => Value.int ((([xeb.map nI] : List (List Int32)).getD 0 []).getD j 0)) = (fun j : Nat => Value.int (nI (xeb.getD j 0))) := by
      funext j
      rw [xeb_map]
    rw [← e]
    exact d4
  · exact vk_R.of (hts (.stringRef "OathTill$Text" 51 xtxt.2.2) (by decide +kernel)) (hev 0 (by decide))
  · intro q hq
    have hm : Cond.methodLinkNest q.1 q.2.1 q.2.2.1 q.2.2.2 ∈ lw_tbl := by
      revert q
      decide +kernel
    exact va_Nw.of rfl (hts _ hm)
  · intro C hC
    have hm : Cond.arrayOver (.object C) ∈ lw_tbl := by
      revert C
      decide +kernel
    exact va_AO.of (hts _ hm)
theorem xD_start {s : State} {b : Nat} (hts : ∀ w ∈ lw_tbl, w.before #[Value.ref b] s = true) : ∃ D : va_G, va_K D vwCl [] s := by
  have hg : ∀ w ∈ xgw, w.before #[Value.ref b] s = true := fun w hw => hts w (List.mem_filter.mp hw).1
  have h0 : ∀ k : Nat, ∃ d : ClassId × (Nat → Nat), ∀ q : vw_C, vwCl[k]? = some q → u_Kn s q.1 q.2.1 q.2.2 d.1 d.2 := by
    intro k
    cases hk : vwCl[k]? with
    | none => exact ⟨(0, fun _ => 0), fun q hq => by cases hq⟩
    | some q =>
      obtain ⟨C, T, N⟩ := q
      have hc := xclf k C T N hk
      obtain ⟨cC, iS, hkn⟩ := u_known hg hc.1 (hg _ hc.2.2.2.1)
      exact ⟨(cC, iS), fun q hq => by cases hq; exact hkn⟩
  obtain ⟨d, hd⟩ := Classical.axiomOfChoice h0
  exact ⟨(fun k => (d k).1, fun k => (d k).2), fun k q hq => hd k q hq, fun k q h => by simp at h⟩
theorem xbxo_0 (xs : Nat → Int32) : xbxo xs xb0 := by
  intro i
  have h := i32_lo (xs i)
  have h2 := xoff_int (xs i)
  match i with
  | 0 => show 9223372034707292160 ≤ xoff (xs 0).toInt ∧ xoff (xs 0).toInt ≤ 9223372039002259455; omega
  | 1 => show 9223372034707292160 ≤ xoff (xs 1).toInt ∧ xoff (xs 1).toInt ≤ 9223372039002259455; omega
  | 2 => show 9223372034707292160 ≤ xoff (xs 2).toInt ∧ xoff (xs 2).toInt ≤ 9223372039002259455; omega
  | 3 => show 9223372034707292160 ≤ xoff (xs 3).toInt ∧ xoff (xs 3).toInt ≤ 9223372039002259455; omega
  | 4 => show 9223372034707292160 ≤ xoff (xs 4).toInt ∧ xoff (xs 4).toInt ≤ 9223372039002259455; omega
  | 5 => show 9223372034707292160 ≤ xoff (xs 5).toInt ∧ xoff (xs 5).toInt ≤ 9223372039002259455; omega
  | k + 6 => show 0 ≤ xoff (xs (k + 6)).toInt ∧ xoff (xs (k + 6)).toInt ≤ 18446744073709551616; omega
