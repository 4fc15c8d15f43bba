/-! Cells, heaps, frames; what is known of the tables -/
section World
variable (D : va_G) (cl : List vw_C) (A : Nat → Prop) (sv : Nat → Int32) (ex : Nat → Nat)
def xaT (U : State) (cA : ClassId) (ty : FieldType) : Prop := ArrOfT U cA ty ∧ va_RA U cA ty
def xcR (U : State) (as : List Nat) (c : xcell) (e : va_E) : Prop :=
  (c.1 < 13 ∧ (∃ r : vw_C, cl[c.1]? = some r ∧ r.2.2 = c.2.1) ∧ ∃ fs : List Value, e = .inr (c.1, fs) ∧ fs.length = c.2.1 ∧ ∀ j : Nat, j < c.2.1 → ∃ (w : xv) (v : Value), xg c.2.2 j = some w ∧ fs[j]? = some v ∧ xden sv ex as w v)
  ∨ (c.1 = 13 ∧ ∃ (cA : ClassId) (f : Nat → Int32), e = .inl (cA, c.2.1, .inl f) ∧ xaT U cA .int ∧ ∀ j : Nat, j < c.2.1 → ∃ w : xv, xg c.2.2 j = some w ∧ xden sv ex as w (.int (f j)))
  ∨ (c.1 = 14 ∧ ∃ (cA : ClassId) (f : Nat → Int64), e = .inl (cA, c.2.1, .inr (.inl f)) ∧ xaT U cA .long ∧ ∀ j : Nat, j < c.2.1 → ∃ w : xv, xg c.2.2 j = some w ∧ xden sv ex as w (.long (f j)))
  ∨ (c.1 = 15 ∧ ∃ (cA : ClassId) (f : Nat → Int32), e = .inl (cA, c.2.1, .inl f) ∧ xaT U cA .byte ∧ ∀ j : Nat, j < c.2.1 → ∃ w : xv, xg c.2.2 j = some w ∧ xden sv ex as w (.int (f j)))
  ∨ (20 ≤ c.1 ∧ ∃ (cA : ClassId) (r : vw_C) (f : Nat → Option Nat), cl[c.1 - 20]? = some r ∧ e = .inl (cA, c.2.1, .inr (.inr (.inr (.inr f)))) ∧ xaT U cA (.object r.1) ∧ ∀ j : Nat, j < c.2.1 → ∃ w : xv, xg c.2.2 j = some w ∧ xden sv ex as w (va_rf (f j)))
theorem xaT.moved {u U : State} (hvm : u.vm.Alike U.vm) {cA : ClassId} {ty : FieldType} (h : xaT u cA ty) : xaT U cA ty := ⟨arrOfT_moved hvm h.1, h.2.moved hvm⟩
theorem xcR.moved {u U : State} (hvm : u.vm.Alike U.vm) {as : List Nat} {c : xcell} {e : va_E} (h : xcR cl sv ex u as c e) : xcR cl sv ex U as c e := by
  rcases h with h | ⟨h0, cA, f, h1, h2, h3⟩ | ⟨h0, cA, f, h1, h2, h3⟩ | ⟨h0, cA, f, h1, h2, h3⟩ | ⟨h0, cA, r, f, h1, h2, h3, h4⟩
  · exact Or.inl h
  · exact Or.inr (Or.inl ⟨h0, cA, f, h1, h2.moved hvm, h3⟩)
  · exact Or.inr (Or.inr (Or.inl ⟨h0, cA, f, h1, h2.moved hvm, h3⟩))
  · exact Or.inr (Or.inr (Or.inr (Or.inl ⟨h0, cA, f, h1, h2.moved hvm, h3⟩)))
  · exact Or.inr (Or.inr (Or.inr (Or.inr ⟨h0, cA, r, f, h1, h2, h3.moved hvm, h4⟩)))
theorem xcR.mono {U : State} {as as' : List Nat} (hl : xle as as') {c : xcell} {e : va_E} (h : xcR cl sv ex U as c e) : xcR cl sv ex U as' c e := by
  rcases h with ⟨h0, h1, fs, h2, h3, h4⟩ | ⟨h0, cA, f, h1, h2, h3⟩ | ⟨h0, cA, f, h1, h2, h3⟩ | ⟨h0, cA, f, h1, h2, h3⟩ | ⟨h0, cA, r, f, h1, h2, h3, h4⟩
  · refine Or.inl ⟨h0, h1, fs, h2, h3, fun j hj => ?_⟩
    obtain ⟨w, v, q1, q2, q3⟩ := h4 j hj
    exact ⟨w, v, q1, q2, xden.mono sv ex hl q3⟩
  · refine Or.inr (Or.inl ⟨h0, cA, f, h1, h2, fun j hj => ?_⟩)
    obtain ⟨w, q1, q3⟩ := h3 j hj
    exact ⟨w, q1, xden.mono sv ex hl q3⟩
  · refine Or.inr (Or.inr (Or.inl ⟨h0, cA, f, h1, h2, fun j hj => ?_⟩))
    obtain ⟨w, q1, q3⟩ := h3 j hj
    exact ⟨w, q1, xden.mono sv ex hl q3⟩
  · refine Or.inr (Or.inr (Or.inr (Or.inl ⟨h0, cA, f, h1, h2, fun j hj => ?_⟩)))
    obtain ⟨w, q1, q3⟩ := h3 j hj
    exact ⟨w, q1, xden.mono sv ex hl q3⟩
  · refine Or.inr (Or.inr (Or.inr (Or.inr ⟨h0, cA, r, f, h1, h2, h3, fun j hj => ?_⟩)))
    obtain ⟨w, q1, q3⟩ := h4 j hj
    exact ⟨w, q1, xden.mono sv ex hl q3⟩
theorem xcR.obj {U : State} {as : List Nat} {c : xcell} {e : va_E} (h : xcR cl sv ex U as c e) (hc : c.1 < 13) : (∃ r : vw_C, cl[c.1]? = some r ∧ r.2.2 = c.2.1) ∧ ∃ fs : List Value, e = .inr (c.1, fs) ∧ fs.length = c.2.1 ∧ ∀ j : Nat, j < c.2.1 → ∃ (w : xv) (v : Value), xg c.2.2 j = some w ∧ fs[j]? = some v ∧ xden sv ex as w v := by
  rcases h with h | h | h | h | h
  · exact h.2
  · have := h.1; omega
  · have := h.1; omega
  · have := h.1; omega
  · have := h.1; omega
theorem xcR.a13 {U : State} {as : List Nat} {c : xcell} {e : va_E} (h : xcR cl sv ex U as c e) (hc : c.1 = 13) : ∃ (cA : ClassId) (f : Nat → Int32), e = .inl (cA, c.2.1, .inl f) ∧ xaT U cA .int ∧ ∀ j : Nat, j < c.2.1 → ∃ w : xv, xg c.2.2 j = some w ∧ xden sv ex as w (.int (f j)) := by
  rcases h with h | h | h | h | h
  · have := h.1; omega
  · exact h.2
  · have := h.1; omega
  · have := h.1; omega
  · have := h.1; omega
theorem xcR.a14 {U : State} {as : List Nat} {c : xcell} {e : va_E} (h : xcR cl sv ex U as c e) (hc : c.1 = 14) : ∃ (cA : ClassId) (f : Nat → Int64), e = .inl (cA, c.2.1, .inr (.inl f)) ∧ xaT U cA .long ∧ ∀ j : Nat, j < c.2.1 → ∃ w : xv, xg c.2.2 j = some w ∧ xden sv ex as w (.long (f j)) := by
  rcases h with h | h | h | h | h
  · have := h.1; omega
  · have := h.1; omega
  · exact h.2
  · have := h.1; omega
  · have := h.1; omega
theorem xcR.a15 {U : State} {as : List Nat} {c : xcell} {e : va_E} (h : xcR cl sv ex U as c e) (hc : c.1 = 15) : ∃ (cA : ClassId) (f : Nat → Int32), e = .inl (cA, c.2.1, .inl f) ∧ xaT U cA .byte ∧ ∀ j : Nat, j < c.2.1 → ∃ w : xv, xg c.2.2 j = some w ∧ xden sv ex as w (.int (f j)) := by
  rcases h with h | h | h | h | h
  · have := h.1; omega
  · have := h.1; omega
  · have := h.1; omega
  · exact h.2
  · have := h.1; omega
theorem xcR.a20 {U : State} {as : List Nat} {c : xcell} {e : va_E} (h : xcR cl sv ex U as c e) (hc : 20 ≤ c.1) : ∃ (cA : ClassId) (r : vw_C) (f : Nat → Option Nat), cl[c.1 - 20]? = some r ∧ e = .inl (cA, c.2.1, .inr (.inr (.inr (.inr f)))) ∧ xaT U cA (.object r.1) ∧ ∀ j : Nat, j < c.2.1 → ∃ w : xv, xg c.2.2 j = some w ∧ xden sv ex as w (va_rf (f j)) := by
  rcases h with h | h | h | h | h
  · have := h.1; omega
  · have := h.1; omega
  · have := h.1; omega
  · have := h.1; omega
  · exact h.2
/-- any array: its length and class -/
theorem xcR.arr {U : State} {as : List Nat} {c : xcell} {e : va_E} (h : xcR cl sv ex U as c e) (hc : 13 ≤ c.1) : ∃ (cA : ClassId) (x : vp_A) (ty : FieldType), e = .inl (cA, x) ∧ x.1 = c.2.1 ∧ xaT U cA ty := by
  rcases h with h | ⟨h0, cA, f, h1, h2, h3⟩ | ⟨h0, cA, f, h1, h2, h3⟩ | ⟨h0, cA, f, h1, h2, h3⟩ | ⟨h0, cA, r, f, h1, h2, h3, h4⟩
  · have := h.1; omega
  · exact ⟨cA, _, _, h1, rfl, h2⟩
  · exact ⟨cA, _, _, h1, rfl, h2⟩
  · exact ⟨cA, _, _, h1, rfl, h2⟩
  · exact ⟨cA, _, _, h2, rfl, h3⟩
def xhR (U : State) (as : List Nat) (h : xheap) (n : Nat) (ws : va_W) : Prop :=
  as.length = n ∧ ws.length = n ∧ ∀ k : Nat, k < n → ∃ (a : Nat) (c : xcell) (e : va_E), as[k]? = some a ∧ xg h k = some c ∧ ws[k]? = some (a, e) ∧ xcR cl sv ex U as c e
theorem xhR.moved {u U : State} (hvm : u.vm.Alike U.vm) {as : List Nat} {h : xheap} {n : Nat} {ws : va_W} (hh : xhR cl sv ex u as h n ws) : xhR cl sv ex U as h n ws := by
  obtain ⟨h1, h2, h3⟩ := hh
  refine ⟨h1, h2, fun k hk => ?_⟩
  obtain ⟨a, c, e, q1, q2, q3, q4⟩ := h3 k hk
  exact ⟨a, c, e, q1, q2, q3, xcR.moved cl sv ex hvm q4⟩
theorem xhR.at {U : State} {as : List Nat} {h : xheap} {n : Nat} {ws : va_W} (hh : xhR cl sv ex U as h n ws) {k a : Nat} {q : xcell} (ha : as[k]? = some a) (hq : xg h k = some q) : ∃ e : va_E, ws[k]? = some (a, e) ∧ xcR cl sv ex U as q e := by
  obtain ⟨h1, h2, h3⟩ := hh
  have hk : k < n := by rw [← h1]; exact (List.getElem?_eq_some_iff.mp ha).1
  obtain ⟨a', c, e, q1, q2, q3, q4⟩ := h3 k hk
  have e1 : a' = a := Option.some.inj (q1.symm.trans ha)
  have e2 : c = q := Option.some.inj (q2.symm.trans hq)
  subst e1; subst e2
  exact ⟨e, q3, q4⟩
theorem xhR.set {U : State} {as : List Nat} {h : xheap} {n : Nat} {ws : va_W} (hh : xhR cl sv ex U as h n ws) {k a : Nat} {q q' : xcell} {e' : va_E} (ha : as[k]? = some a) (hq : xg h k = some q) (he : xcR cl sv ex U as q' e') : xhR cl sv ex U as (xw h k q') n (ws.set k (a, e')) := by
  obtain ⟨h1, h2, h3⟩ := hh
  refine ⟨h1, by rw [List.length_set]; exact h2, fun j hj => ?_⟩
  by_cases hjk : j = k
  · subst hjk
    exact ⟨a, q', e', ha, xg_self h j q' q hq, List.getElem?_set_self (by rw [h2]; exact hj), he⟩
  · obtain ⟨a', c, e, q1, q2, q3, q4⟩ := h3 j hj
    exact ⟨a', c, e, q1, by rw [xg_other h k j q' hjk]; exact q2, by rw [List.getElem?_set_ne (Ne.symm hjk)]; exact q3, q4⟩
theorem xhR.push {U : State} {as : List Nat} {h : xheap} {n : Nat} {ws : va_W} (hh : xhR cl sv ex U as h n ws) {a : Nat} {q q' : xcell} {e' : va_E} (hq : xg h n = some q) (he : xcR cl sv ex U (as ++ [a]) q' e') : xhR cl sv ex U (as ++ [a]) (xw h n q') (n + 1) (ws ++ [(a, e')]) := by
  obtain ⟨h1, h2, h3⟩ := hh
  refine ⟨by rw [List.length_append, h1]; rfl, by rw [List.length_append, h2]; rfl, fun j hj => ?_⟩
  by_cases hjk : j = n
  · subst hjk
    refine ⟨a, q', e', ?_, xg_self h j q' q hq, ?_, he⟩
    · rw [← h1, List.getElem?_append_right (Nat.le_refl _), Nat.sub_self]; rfl
    · rw [← h2, List.getElem?_append_right (Nat.le_refl _), Nat.sub_self]; rfl
  · obtain ⟨a', c, e, q1, q2, q3, q4⟩ := h3 j (by omega)
    refine ⟨a', c, e, xle.push as a j a' q1, by rw [xg_other h n j q' hjk]; exact q2, ?_, xcR.mono cl sv ex (xle.push as a) q4⟩
    rw [List.getElem?_append_left (by omega)]; exact q3
def xWorld (s : State) (as : List Nat) (bx : xbox) (h : xheap) (n : Nat) (ws : va_W) (H : Heap) (locs : List Loc) : Prop :=
  xbxo sv bx ∧ xhR cl sv ex s as h n ws ∧ va_P D cl ws H ∧ va_D A ws ∧ va_S A s.heap H locs
def xFrm (as : List Nat) (nL : Nat) (ls : List (Nat × xv)) (st : List xv) (la : Array Slot) (stv : List Value) : Prop :=
  (∃ lv : List (Nat × Value), lv_has la nL lv ∧ xlsR sv ex as ls lv) ∧ xstR sv ex as st stv
/-- what was there before and is read: the script, two statics, a text -/
def xEX (el : Nat → Nat) (eb : Nat → List Nat) (nest : List (String × Nat × MethodName × String)) (txt : Nat → String × Nat × String) (ovr : List String) (s : State) : Prop :=
  (va_X (ex 0) (el 0) sv s s.heap ∧ ex 0 < s.heap.size ∧ ¬ A (ex 0)) ∧
  va_Z "java/lang/String" "COMPACT_STRINGS" "Z" (.int 1) A s s.heap ∧
  va_Zq "jdk/internal/util/Preconditions" "SIOOBE_FORMATTER" "Ljava/util/function/BiFunction;" A s s.heap ∧
  (∀ i : Nat, i = 1 ∨ i = 3 → va_O "java/lang/String" (ex i) A s s.heap ∧ va_OF "java/lang/String" "coder" "B" (.int 0) (ex i) A s s.heap ∧ va_OF "java/lang/String" "value" "[B" (.ref (ex (i + 1))) (ex i) A s s.heap ∧ va_T .byte (ex (i + 1)) (el (i + 1)) (fun j => .int (nI ((eb (i + 1)).getD j 0))) A s s.heap) ∧
  (∀ i : Nat, i = 1 ∨ i = 3 → vk_R (txt i).1 (txt i).2.1 (txt i).2.2 (ex i) s) ∧
  (∀ q ∈ nest, va_Nw (.methodLinkNest q.1 q.2.1 q.2.2.1 q.2.2.2) s) ∧ ∀ C ∈ ovr, va_AO C s
theorem xEX.moved {el : Nat → Nat} {eb : Nat → List Nat} {nest : List (String × Nat × MethodName × String)} {txt : Nat → String × Nat × String} {ovr : List String} {s U : State} (hW : s.WarmedH U.vm) (hz : s.heap.size ≤ U.heap.size) (hk : ∀ a : Nat, a < s.heap.size → ¬ A a → U.heap[a]? = s.heap[a]?) (h : xEX A sv ex el eb nest txt ovr s) : xEX A sv ex el eb nest txt ovr U := by
  obtain ⟨⟨a1, a2, a3⟩, b, c, d, e, f, g⟩ := h
  have hv := hW.alike
  refine ⟨⟨(a1.moved hv).kept (hk _ a2 a3), Nat.lt_of_lt_of_le a2 hz, a3⟩, (b.moved hv).kept hk, ?_, fun i hi => ⟨(va_O.moved hv (d i hi).1).kept hk, (va_OF.moved hv (d i hi).2.1).kept hk, (va_OF.moved hv (d i hi).2.2.1).kept hk, (va_T.moved hv (d i hi).2.2.2).kept hk⟩, fun i hi => vk_R.warm hW (e i hi), fun q hq => va_Nw.warmM hW (f q hq), fun C hC => va_AO.moved hv (g C hC)⟩
  rcases c with c | ⟨t, c⟩
  · exact Or.inl ((c.moved hv).kept hk)
  · exact Or.inr ⟨t, (c.moved hv).kept hk⟩
theorem xEX.same {el : Nat → Nat} {eb : Nat → List Nat} {nest : List (String × Nat × MethodName × String)} {txt : Nat → String × Nat × String} {ovr : List String} {s U : State} (hv : U.vm = s.vm) (hh : U.heap = s.heap) (h : xEX A sv ex el eb nest txt ovr s) : xEX A sv ex el eb nest txt ovr U := by
  obtain ⟨⟨a1, a2, a3⟩, b, c, d, e, f, g⟩ := h
  have hva : s.vm.Alike U.vm := by rw [hv]; exact Vm.Alike.refl _
  unfold xEX
  rw [hh]
  refine ⟨⟨a1.moved hva, a2, a3⟩, b.moved hva, ?_, fun i hi => ⟨va_O.moved hva (d i hi).1, va_OF.moved hva (d i hi).2.1, va_OF.moved hva (d i hi).2.2.1, va_T.moved hva (d i hi).2.2.2⟩, fun i hi => vk_R.same hv (e i hi), fun q hq => va_Nw.same rfl hv.symm (f q hq), fun C hC => va_AO.moved hva (g C hC)⟩
  rcases c with c | ⟨t, c⟩
  · exact Or.inl (c.moved hva)
  · exact Or.inr ⟨t, c.moved hva⟩
end World
