/-! What the start gives: the script, the statics, the texts, the classes -/
set_option maxRecDepth 100000 in
theorem xtx_2 : (List.range 133).all (fun j => decide ((flatC (Jvm.Cond.and given_1 narrow_1))[65 + j]? = some (Cond.eq (.elem (.field (.string "OathTill$Text" 51) "java/lang/String" "value" "[B") (.int (Int32.ofNat j))) (.int (nI ((xeb 2).getD j 0)))))) = true := by decide +kernel
set_option maxRecDepth 100000 in
theorem xtx_4 : (List.range 134).all (fun j => decide ((flatC (Jvm.Cond.and given_1 narrow_1))[202 + j]? = some (Cond.eq (.elem (.field (.string "OathTillModel" 174) "java/lang/String" "value" "[B") (.int (Int32.ofNat j))) (.int (nI ((xeb 4).getD j 0)))))) = true := by decide +kernel
theorem xeb_map (l : List Nat) (j : Nat) : (([l.map nI] : List (List Int32)).getD 0 []).getD j 0 = nI (l.getD j 0) := by
  show (l.map nI).getD j 0 = _
  rw [List.getD_eq_getElem?_getD, List.getElem?_map, List.getD_eq_getElem?_getD]
  cases l[j]? <;> rfl
theorem xSof {s : State} {b n : Nat} {C : String} {i : Nat} {bs : List Nat} {A : Nat → Prop} (hn : n < 2 ^ 31) (h1 : (Cond.exactly (Term.string C i) "java/lang/String").before #[Value.ref b] s = true) (h2 : (Cond.eq (.field (Term.string C i) "java/lang/String" "coder" "B") (.int 0)).before #[Value.ref b] s = true) (h3 : (Cond.arrayOf (.field (Term.string C i) "java/lang/String" "value" "[B") .byte).before #[Value.ref b] s = true) (h4 : (Cond.eq (.length (.field (Term.string C i) "java/lang/String" "value" "[B")) (.int (Int32.ofNat n))).before #[Value.ref b] s = true)
    (h5 : ∀ j : Nat, j < n → (Cond.eq (.elem (.field (Term.string C i) "java/lang/String" "value" "[B") (.int (Int32.ofNat j))) (.int (nI (bs.getD j 0)))).before #[Value.ref b] s = true) (hA : ∀ a : Nat, a < s.heap.size → ¬ A a) :
    ∃ k v : Nat, (va_O "java/lang/String" k A s s.heap ∧ va_OF "java/lang/String" "coder" "B" (.int 0) k A s s.heap ∧ va_OF "java/lang/String" "value" "[B" (.ref v) k A s s.heap ∧ va_T .byte v n (fun j => .int (nI (bs.getD j 0))) A s s.heap) ∧ (Term.string C i).eval #[Value.ref b] s none [] s = some (.ref k) := by
  obtain ⟨adK, adV, hS, hev⟩ := vk_Sof (args := #[Value.ref b]) (s := s) (N := 1) (tm := fun _ => Term.string C i) (len := [n]) (byt := [bs.map nI]) (A := A)
    (fun i hi => by
      have e : i = 0 := by omega
      subst e; exact hn)
    (fun _ _ => h1) (fun _ _ => h2) (fun _ _ => h3)
    (fun i hi => by
      have e : i = 0 := by omega
      subst e
      exact h4)
    (fun i hi j hj => by
      have e : i = 0 := by omega
      subst e
      rw [xeb_map]
      exact h5 j hj)
    (fun i j hi hj hij => by omega) hA
  obtain ⟨d1, d2, d3, d4⟩ := hS.1 0 (by decide)
  refine ⟨adK 0, adV 0, ⟨d1, d2, d3, ?_⟩, hev 0 (by decide)⟩
  have e : (fun j : Nat => Value.int ((([bs.map nI] : List (List Int32)).getD 0 []).getD j 0)) = (fun j : Nat => Value.int (nI (bs.getD j 0))) := by
    funext j
    rw [xeb_map]
  rw [← e]
  exact d4
theorem xEX_start {s : State} {b L : Nat} {xs : Nat → Int32} (hts : ∀ w ∈ lw_tbl, w.before #[Value.ref b] s = true) (hX : va_X b L xs s s.heap) (hbl : b < s.heap.size) (hgv : (Jvm.Cond.and given_1 narrow_1).before #[Value.ref b] s = true) :
    ∃ ex : Nat → Nat, ex 0 = b ∧ xEX (fun q : Nat => s.heap.size ≤ q) xs ex (xel L) xeb xnest xtxt xovr s := by
  have hs := flat_of_before _ hgv
  have hA : ∀ a : Nat, a < s.heap.size → ¬ (fun q : Nat => s.heap.size ≤ q) a := fun a h => Nat.not_le.mpr h
  obtain ⟨k1, v1, d1, e1⟩ := xSof (s := s) (b := b) (n := 133) (C := "OathTill$Text") (i := 51) (bs := xeb 2) (A := fun q : Nat => s.heap.size ≤ q) (by decide)
    (hs (Cond.exactly (Term.string "OathTill$Text" 51) "java/lang/String") (by decide +kernel))
    (hs (Cond.eq (.field (Term.string "OathTill$Text" 51) "java/lang/String" "coder" "B") (.int 0)) (by decide +kernel))
    (hs (Cond.arrayOf (.field (Term.string "OathTill$Text" 51) "java/lang/String" "value" "[B") .byte) (by decide +kernel))
    (hs (Cond.eq (.length (.field (Term.string "OathTill$Text" 51) "java/lang/String" "value" "[B")) (.int (Int32.ofNat 133))) (by decide +kernel))
    (fun j hj => hs _ (List.mem_of_getElem? (of_decide_eq_true (List.all_eq_true.mp xtx_2 j (List.mem_range.mpr hj))))) hA
  obtain ⟨k3, v3, d3, e3⟩ := xSof (s := s) (b := b) (n := 134) (C := "OathTillModel") (i := 174) (bs := xeb 4) (A := fun q : Nat => s.heap.size ≤ q) (by decide)
    (hs (Cond.exactly (Term.string "OathTillModel" 174) "java/lang/String") (by decide +kernel))
    (hs (Cond.eq (.field (Term.string "OathTillModel" 174) "java/lang/String" "coder" "B") (.int 0)) (by decide +kernel))
    (hs (Cond.arrayOf (.field (Term.string "OathTillModel" 174) "java/lang/String" "value" "[B") .byte) (by decide +kernel))
    (hs (Cond.eq (.length (.field (Term.string "OathTillModel" 174) "java/lang/String" "value" "[B")) (.int (Int32.ofNat 134))) (by decide +kernel))
    (fun j hj => hs _ (List.mem_of_getElem? (of_decide_eq_true (List.all_eq_true.mp xtx_4 j (List.mem_range.mpr hj))))) hA
  refine ⟨fun i => match i with
    | 0 => b
    | 1 => k1
    | 2 => v1
    | 3 => k3
    | _ => v3, rfl, ⟨hX, hbl, hA b hbl⟩, ?_, ?_, ?_, ?_, ?_, ?_⟩
  · exact va_Zof (hts (.laysStatic "java/lang/String" "COMPACT_STRINGS" "Z") (by decide +kernel)) (hts (.initialized "java/lang/String") (by decide +kernel)) (va_eqi (hs (Cond.eq (.static "java/lang/String" "COMPACT_STRINGS" "Z") (.int 1)) (by decide +kernel))) hA
  · exact va_Zqof (hts (.laysStatic "jdk/internal/util/Preconditions" "SIOOBE_FORMATTER" "Ljava/util/function/BiFunction;") (by decide +kernel)) (hts (.initialized "jdk/internal/util/Preconditions") (by decide +kernel)) (hs (Cond.isRef (.static "jdk/internal/util/Preconditions" "SIOOBE_FORMATTER" "Ljava/util/function/BiFunction;")) (by decide +kernel)) hA
  · intro i hi
    rcases hi with e | e
    · subst e; exact d1
    · subst e; exact d3
  · intro i hi
    rcases hi with e | e
    · subst e; exact vk_R.of (hts (.stringRef "OathTill$Text" 51 (xtxt 1).2.2) (by decide +kernel)) e1
    · subst e; exact vk_R.of (hts (.stringRef "OathTillModel" 174 (xtxt 3).2.2) (by decide +kernel)) e3
  · intro q hq
    have hm : Cond.methodLinkNest q.1 q.2.1 q.2.2.1 q.2.2.2 ∈ lw_tbl := by
      revert q
      decide +kernel
    exact va_Nw.of rfl (hts _ hm)
  · intro C hC
    have hm : Cond.arrayOver (.object C) ∈ lw_tbl := by
      revert C
      decide +kernel
    exact va_AO.of (hts _ hm)
theorem xD_start {s : State} {b : Nat} (hts : ∀ w ∈ lw_tbl, w.before #[Value.ref b] s = true) : ∃ D : va_G, va_K D vwCl [] s := by
  have hg : ∀ w ∈ xgw, w.before #[Value.ref b] s = true := fun w hw => hts w (List.mem_filter.mp hw).1
  have h0 : ∀ k : Nat, ∃ d : ClassId × (Nat → Nat), ∀ q : vw_C, vwCl[k]? = some q → u_Kn s q.1 q.2.1 q.2.2 d.1 d.2 := by
    intro k
    cases hk : vwCl[k]? with
    | none => exact ⟨(0, fun _ => 0), fun q hq => by cases hq⟩
    | some q =>
      obtain ⟨C, T, N⟩ := q
      have hc := xclf k C T N hk
      obtain ⟨cC, iS, hkn⟩ := u_known hg hc.1 (hg _ hc.2.2.2.1)
      exact ⟨(cC, iS), fun q hq => by cases hq; exact hkn⟩
  obtain ⟨d, hd⟩ := Classical.axiomOfChoice h0
  exact ⟨(fun k => (d k).1, fun k => (d k).2), fun k q hq => hd k q hq, fun k q h => by simp at h⟩
theorem xbxo_0 (xs : Nat → Int32) : xbxo xs [] := by
  intro i
  have h2 := xoff_int (xs i)
  have h := i32_lo (xs i)
  show 0 ≤ xoff (xs i).toInt ∧ xoff (xs i).toInt ≤ 18446744073709551616
  omega
