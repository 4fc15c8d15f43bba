/-! The tables say what they must: checks by computing, and what they give -/
def xgw : List Cond := lw_tbl.filter goodWord
theorem xgw_good : xGood xgw := fun w hw => good_of_word (List.mem_filter.mp hw).2
def xmem (i : Nat) (w : Cond) : Bool := decide (lw_tbl[i]? = some w)
theorem xmem_ok {i : Nat} {w : Cond} (h : xmem i w = true) (hg : goodWord w = true) : w ∈ xgw := List.mem_filter.mpr ⟨List.mem_of_getElem? (of_decide_eq_true h), hg⟩
/-! pools: a key is a class's number times 4096, and the entry -/
noncomputable def xkF (key : Nat) (v : Nat × Nat × Nat) : Bool :=
  cond (Nat.blt v.1 13)
    (match vwCl[v.1]? with
      | none => false
      | some r => Nat.blt v.2.1 r.2.2 && xmem v.2.2 (.fieldLink (xcn (key / 4096)) (key % 4096) (r.2.1 v.2.1).1 (r.2.1 v.2.1).2.1 (r.2.1 v.2.1).2.2.1))
    (Nat.beq v.1 98 && cond (Nat.beq v.2.1 0) (xmem v.2.2 (.fieldLink (xcn (key / 4096)) (key % 4096) "java/lang/String" "value" "[B")) (xmem v.2.2 (.fieldLink (xcn (key / 4096)) (key % 4096) "java/lang/String" "coder" "B")))
noncomputable def xkL (key : Nat) (v : Nat × Nat × Nat) : Bool :=
  cond (Nat.beq v.2.2 6) (xmem v.2.1 (.methodLink (xcn (key / 4096)) (key % 4096) objectInit))
    (cond (Nat.beq v.2.2 8) (xmem v.2.1 (.methodLink (xcn (key / 4096)) (key % 4096) arraycopyName))
      (cond (Nat.beq v.2.2 5) (decide ((xcn (key / 4096), key % 4096, xnm v.1, "OathTill") ∈ xnest)) (xmem v.2.1 (.methodLink (xcn (key / 4096)) (key % 4096) (xnm v.1)))))
noncomputable def xkK (key : Nat) (v : Nat × Nat) : Bool := match vwCl[v.1]? with
  | none => false
  | some r => xmem v.2 (.classLink (xcn (key / 4096)) (key % 4096) r.1)
noncomputable def xkC (key : Nat) (v : Nat × Nat) : Bool := xmem v.2 (.constant (xcn (key / 4096)) (key % 4096) (nI v.1))
noncomputable def xkD (key : Nat) (v : Nat × Nat) : Bool := xmem v.2 (.constantLong (xcn (key / 4096)) (key % 4096) (lN v.1))
/-- a method but for its code -/
noncomputable def xkM (z : Nat) (v : Nat × Nat × Nat × Nat × Nat × Nat) : Bool :=
  decide ((xnm z).cls = xcn v.1) && (Nat.beq z 0 ||
    (xmem v.2.2.2.1 (.initialized (xnm z).cls) && plainFor (xnm z) && decide ((xnm z).cls ≠ "java/lang/invoke/MethodHandle") && decide ((xnm z).cls ≠ "java/lang/invoke/VarHandle") && decide ((parseMethodDescriptor (xnm z).desc).map (fun d => d.parameters.length) = some (xu xmeth z).2.2.1) && Nat.ble (xu xmeth z).2.2.2.2.2 24 &&
      (match v.2.1 with
        | 1 => xmem v.2.2.2.2.1 (.instanceMethod (xnm z)) && xmem v.2.2.2.2.2 (.selects (xnm z).cls (xnm z) (xnm z)) && cond (Nat.blt (xu xmeth z).2.2.2.1 13) (match vwCl[(xu xmeth z).2.2.2.1]? with
          | none => false
          | some r => decide (r.1 = (xnm z).cls)) (decide ((xnm z).cls = "java/lang/String"))
        | 2 => xmem v.2.2.2.2.1 (.instanceMethod (xnm z)) && decide ((xnm z).name = "<init>") && decide (xrtt z = none)
        | _ => xmem v.2.2.2.2.1 (.static (xnm z)))))
set_option maxRecDepth 100000 in
theorem xF_ok : xall xXF xkF = true := by decide +kernel
set_option maxRecDepth 100000 in
theorem xL_ok : xall xXL xkL = true := by decide +kernel
set_option maxRecDepth 100000 in
theorem xK_ok : xall xXK xkK = true := by decide +kernel
set_option maxRecDepth 100000 in
theorem xC_ok : xall xXC xkC = true := by decide +kernel
set_option maxRecDepth 100000 in
theorem xD_ok : xall xXD xkD = true := by decide +kernel
theorem xal_b {α : Type} {p : Nat} {a b : Lean.RArray (Nat × α)} {f : Nat → α → Bool} (ha : xall a f = true) (hb : xall b f = true) : xall (.branch p a b) f = true := by
  show cond (xall a f) (xall b f) false = true
  rw [ha, hb]; rfl
set_option maxRecDepth 100000 in
theorem xM_0 : xall xXM_0 xkM = true := by decide +kernel
set_option maxRecDepth 100000 in
theorem xM_23 : xall xXM_23 xkM = true := by decide +kernel
set_option maxRecDepth 100000 in
theorem xM_46 : xall xXM_46 xkM = true := by decide +kernel
set_option maxRecDepth 100000 in
theorem xM_69 : xall xXM_69 xkM = true := by decide +kernel
set_option maxRecDepth 100000 in
theorem xM_92 : xall xXM_92 xkM = true := by decide +kernel
set_option maxRecDepth 100000 in
theorem xM_115 : xall xXM_115 xkM = true := by decide +kernel
set_option maxRecDepth 100000 in
theorem xM_138 : xall xXM_138 xkM = true := by decide +kernel
set_option maxRecDepth 100000 in
theorem xM_161 : xall xXM_161 xkM = true := by decide +kernel
set_option maxRecDepth 100000 in
theorem xM_185 : xall xXM_185 xkM = true := by decide +kernel
set_option maxRecDepth 100000 in
theorem xM_208 : xall xXM_208 xkM = true := by decide +kernel
set_option maxRecDepth 100000 in
theorem xM_231 : xall xXM_231 xkM = true := by decide +kernel
set_option maxRecDepth 100000 in
theorem xM_254 : xall xXM_254 xkM = true := by decide +kernel
set_option maxRecDepth 100000 in
theorem xM_278 : xall xXM_278 xkM = true := by decide +kernel
set_option maxRecDepth 100000 in
theorem xM_301 : xall xXM_301 xkM = true := by decide +kernel
set_option maxRecDepth 100000 in
theorem xM_324 : xall xXM_324 xkM = true := by decide +kernel
set_option maxRecDepth 100000 in
theorem xM_347 : xall xXM_347 xkM = true := by decide +kernel
theorem xM_ok : xall xXM xkM = true := (xal_b (xal_b (xal_b (xal_b xM_0 xM_23) (xal_b xM_46 xM_69)) (xal_b (xal_b xM_92 xM_115) (xal_b xM_138 xM_161))) (xal_b (xal_b (xal_b xM_185 xM_208) (xal_b xM_231 xM_254)) (xal_b (xal_b xM_278 xM_301) (xal_b xM_324 xM_347))))
