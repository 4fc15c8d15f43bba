/-! The tables say what they must: checks by computing, and what they give -/
def xgw : List Cond := lw_tbl.filter goodWord
theorem xgw_good : xGood xgw := fun w hw => good_of_word (List.mem_filter.mp hw).2
theorem xjn_1 {w : Cond} (h : w ∈ tables_1_1) : w ∈ lw_tbl := List.mem_append_right _ (List.mem_append_left _ h)
theorem xjn_2 {w : Cond} (h : w ∈ tables_1_2) : w ∈ lw_tbl := List.mem_append_right _ (List.mem_append_right _ (List.mem_append_left _ h))
theorem xjn_3 {w : Cond} (h : w ∈ tables_1_3) : w ∈ lw_tbl := List.mem_append_right _ (List.mem_append_right _ (List.mem_append_right _ (List.mem_append_left _ h)))
theorem xjn_4 {w : Cond} (h : w ∈ tables_1_4) : w ∈ lw_tbl := List.mem_append_right _ (List.mem_append_right _ (List.mem_append_right _ (List.mem_append_right _ (List.mem_append_left _ h))))
theorem xjn_5 {w : Cond} (h : w ∈ tables_1_5) : w ∈ lw_tbl := List.mem_append_right _ (List.mem_append_right _ (List.mem_append_right _ (List.mem_append_right _ (List.mem_append_right _ (List.mem_append_left _ h)))))
theorem xjn_6 {w : Cond} (h : w ∈ tables_1_6) : w ∈ lw_tbl := List.mem_append_right _ (List.mem_append_right _ (List.mem_append_right _ (List.mem_append_right _ (List.mem_append_right _ (List.mem_append_right _ (List.mem_append_left _ h))))))
theorem xjn_7 {w : Cond} (h : w ∈ tables_1_7) : w ∈ lw_tbl := List.mem_append_right _ (List.mem_append_right _ (List.mem_append_right _ (List.mem_append_right _ (List.mem_append_right _ (List.mem_append_right _ (List.mem_append_right _ (List.mem_append_left _ h)))))))
theorem xjn_8 {w : Cond} (h : w ∈ tables_1_8) : w ∈ lw_tbl := List.mem_append_right _ (List.mem_append_right _ (List.mem_append_right _ (List.mem_append_right _ (List.mem_append_right _ (List.mem_append_right _ (List.mem_append_right _ (List.mem_append_right _ (List.mem_append_left _ h))))))))
theorem xjn_9 {w : Cond} (h : w ∈ tables_1_9) : w ∈ lw_tbl := List.mem_append_right _ (List.mem_append_right _ (List.mem_append_right _ (List.mem_append_right _ (List.mem_append_right _ (List.mem_append_right _ (List.mem_append_right _ (List.mem_append_right _ (List.mem_append_right _ (List.mem_append_left _ h)))))))))
theorem xjn_10 {w : Cond} (h : w ∈ tables_1_10) : w ∈ lw_tbl := List.mem_append_right _ (List.mem_append_right _ (List.mem_append_right _ (List.mem_append_right _ (List.mem_append_right _ (List.mem_append_right _ (List.mem_append_right _ (List.mem_append_right _ (List.mem_append_right _ (List.mem_append_right _ (h))))))))))
noncomputable def xwk (i : Nat) : Option Cond := cond (Nat.blt i 140) (lw_tbl[i]?) (cond (Nat.blt i 380) (tables_1_1[i - 140]?) (cond (Nat.blt i 620) (tables_1_2[i - 380]?) (cond (Nat.blt i 860) (tables_1_3[i - 620]?) (cond (Nat.blt i 1100) (tables_1_4[i - 860]?) (cond (Nat.blt i 1340) (tables_1_5[i - 1100]?) (cond (Nat.blt i 1580) (tables_1_6[i - 1340]?) (cond (Nat.blt i 1820) (tables_1_7[i - 1580]?) (cond (Nat.blt i 2060) (tables_1_8[i - 1820]?) (cond (Nat.blt i 2300) (tables_1_9[i - 2060]?) ((tables_1_10[i - 2300]?)))))))))))
theorem xcs {b : Bool} {x y : Option Cond} {w : Cond} (h : cond b x y = some w) : x = some w ∨ y = some w := by
  cases b with
  | true => exact Or.inl h
  | false => exact Or.inr h
theorem xwk_ok {i : Nat} {w : Cond} (h : xwk i = some w) : w ∈ lw_tbl := by
  unfold xwk at h
  exact (xcs h).elim (fun h => List.mem_of_getElem? h) (fun h => (xcs h).elim (fun h => xjn_1 (List.mem_of_getElem? h)) (fun h => (xcs h).elim (fun h => xjn_2 (List.mem_of_getElem? h)) (fun h => (xcs h).elim (fun h => xjn_3 (List.mem_of_getElem? h)) (fun h => (xcs h).elim (fun h => xjn_4 (List.mem_of_getElem? h)) (fun h => (xcs h).elim (fun h => xjn_5 (List.mem_of_getElem? h)) (fun h => (xcs h).elim (fun h => xjn_6 (List.mem_of_getElem? h)) (fun h => (xcs h).elim (fun h => xjn_7 (List.mem_of_getElem? h)) (fun h => (xcs h).elim (fun h => xjn_8 (List.mem_of_getElem? h)) (fun h => (xcs h).elim (fun h => xjn_9 (List.mem_of_getElem? h)) (fun h => xjn_10 (List.mem_of_getElem? h)))))))))))
noncomputable def xmem (i : Nat) (w : Cond) : Bool := decide (xwk i = some w)
theorem xmem_ok {i : Nat} {w : Cond} (h : xmem i w = true) (hg : goodWord w = true) : w ∈ xgw := List.mem_filter.mpr ⟨xwk_ok (of_decide_eq_true h), hg⟩
/-! pools: a key is a class's number times 4096, and the entry -/
noncomputable def xkF (key : Nat) (v : Nat × Nat × Nat) : Bool :=
  cond (Nat.blt v.1 13)
    (match vwCl[v.1]? with
      | none => false
      | some r => Nat.blt v.2.1 r.2.2 && xmem v.2.2 (.fieldLink (xcn (key / 4096)) (key % 4096) (r.2.1 v.2.1).1 (r.2.1 v.2.1).2.1 (r.2.1 v.2.1).2.2.1))
    (Nat.beq v.1 98 && cond (Nat.beq v.2.1 0) (xmem v.2.2 (.fieldLink (xcn (key / 4096)) (key % 4096) "java/lang/String" "value" "[B")) (xmem v.2.2 (.fieldLink (xcn (key / 4096)) (key % 4096) "java/lang/String" "coder" "B")))
noncomputable def xkL (key : Nat) (v : Nat × Nat × Nat) : Bool :=
  cond (Nat.beq v.2.2 6) (xmem v.2.1 (.methodLink (xcn (key / 4096)) (key % 4096) objectInit))
    (cond (Nat.beq v.2.2 8) (xmem v.2.1 (.methodLink (xcn (key / 4096)) (key % 4096) arraycopyName))
      (cond (Nat.beq v.2.2 5) (decide ((xcn (key / 4096), key % 4096, xnm v.1, "OathTill") ∈ xnest)) (xmem v.2.1 (.methodLink (xcn (key / 4096)) (key % 4096) (xnm v.1)))))
noncomputable def xkK (key : Nat) (v : Nat × Nat) : Bool := match vwCl[v.1]? with
  | none => false
  | some r => xmem v.2 (.classLink (xcn (key / 4096)) (key % 4096) r.1)
noncomputable def xkC (key : Nat) (v : Nat × Nat) : Bool := xmem v.2 (.constant (xcn (key / 4096)) (key % 4096) (nI v.1))
noncomputable def xkD (key : Nat) (v : Nat × Nat) : Bool := xmem v.2 (.constantLong (xcn (key / 4096)) (key % 4096) (lN v.1))
/-- a method but for its code -/
noncomputable def xkM (z : Nat) (v : Nat × Nat × Nat × Nat × Nat × Nat) : Bool :=
  decide ((xnm z).cls = xcn v.1) && (Nat.beq z 0 ||
    (xmem v.2.2.2.1 (.initialized (xnm z).cls) && plainFor (xnm z) && decide ((xnm z).cls ≠ "java/lang/invoke/MethodHandle") && decide ((xnm z).cls ≠ "java/lang/invoke/VarHandle") && decide ((parseMethodDescriptor (xnm z).desc).map (fun d => d.parameters.length) = some (xu xmeth z).2.2.1) && Nat.ble (xu xmeth z).2.2.2.2.2 24 &&
      (match v.2.1 with
        | 1 => xmem v.2.2.2.2.1 (.instanceMethod (xnm z)) && xmem v.2.2.2.2.2 (.selects (xnm z).cls (xnm z) (xnm z)) && cond (Nat.blt (xu xmeth z).2.2.2.1 13) (match vwCl[(xu xmeth z).2.2.2.1]? with
          | none => false
          | some r => decide (r.1 = (xnm z).cls)) (decide ((xnm z).cls = "java/lang/String"))
        | 2 => xmem v.2.2.2.2.1 (.instanceMethod (xnm z)) && decide ((xnm z).name = "<init>") && decide (xrtt z = none)
        | _ => xmem v.2.2.2.2.1 (.static (xnm z)))))
set_option maxRecDepth 100000 in
theorem xF_ok : xall xXF xkF = true := by decide +kernel
set_option maxRecDepth 100000 in
theorem xL_ok : xall xXL xkL = true := by decide +kernel
set_option maxRecDepth 100000 in
theorem xK_ok : xall xXK xkK = true := by decide +kernel
set_option maxRecDepth 100000 in
theorem xC_ok : xall xXC xkC = true := by decide +kernel
set_option maxRecDepth 100000 in
theorem xD_ok : xall xXD xkD = true := by decide +kernel
theorem xal_b {α : Type} {p : Nat} {a b : Lean.RArray (Nat × α)} {f : Nat → α → Bool} (ha : xall a f = true) (hb : xall b f = true) : xall (.branch p a b) f = true := by
  show cond (xall a f) (xall b f) false = true
  rw [ha, hb]; rfl
set_option maxRecDepth 100000 in
theorem xM_0 : xall xXM_0 xkM = true := by decide +kernel
set_option maxRecDepth 100000 in
theorem xM_23 : xall xXM_23 xkM = true := by decide +kernel
set_option maxRecDepth 100000 in
theorem xM_46 : xall xXM_46 xkM = true := by decide +kernel
set_option maxRecDepth 100000 in
theorem xM_69 : xall xXM_69 xkM = true := by decide +kernel
set_option maxRecDepth 100000 in
theorem xM_92 : xall xXM_92 xkM = true := by decide +kernel
set_option maxRecDepth 100000 in
theorem xM_115 : xall xXM_115 xkM = true := by decide +kernel
set_option maxRecDepth 100000 in
theorem xM_138 : xall xXM_138 xkM = true := by decide +kernel
set_option maxRecDepth 100000 in
theorem xM_161 : xall xXM_161 xkM = true := by decide +kernel
set_option maxRecDepth 100000 in
theorem xM_185 : xall xXM_185 xkM = true := by decide +kernel
set_option maxRecDepth 100000 in
theorem xM_208 : xall xXM_208 xkM = true := by decide +kernel
set_option maxRecDepth 100000 in
theorem xM_231 : xall xXM_231 xkM = true := by decide +kernel
set_option maxRecDepth 100000 in
theorem xM_254 : xall xXM_254 xkM = true := by decide +kernel
set_option maxRecDepth 100000 in
theorem xM_278 : xall xXM_278 xkM = true := by decide +kernel
set_option maxRecDepth 100000 in
theorem xM_301 : xall xXM_301 xkM = true := by decide +kernel
set_option maxRecDepth 100000 in
theorem xM_324 : xall xXM_324 xkM = true := by decide +kernel
set_option maxRecDepth 100000 in
theorem xM_347 : xall xXM_347 xkM = true := by decide +kernel
theorem xM_ok : xall xXM xkM = true := (xal_b (xal_b (xal_b (xal_b xM_0 xM_23) (xal_b xM_46 xM_69)) (xal_b (xal_b xM_92 xM_115) (xal_b xM_138 xM_161))) (xal_b (xal_b (xal_b xM_185 xM_208) (xal_b xM_231 xM_254)) (xal_b (xal_b xM_278 xM_301) (xal_b xM_324 xM_347))))
