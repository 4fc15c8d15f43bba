/-! What the tables must say, and what the explorer's end promises -/
section Snd
variable (l : Launch) (D : va_G) (cl : List vw_C) (A : Nat → Prop) (sv : Nat → Int32) (ex : Nat → Nat) (el : Nat → Nat) (eb : Nat → List Nat) (nest : List (String × Nat × MethodName × String)) (txt : Nat → String × Nat × String) (ovr : List String)
variable (cd : xcd) (mi : xmi) (df : xdf) (bys : Nat → ByteArray) (nm : Nat → MethodName) (rtt : Nat → Option FieldType) (gw : List Cond)
noncomputable def xu (y : Nat) : Nat × Nat × Nat × Nat × Nat × Nat := (xg mi y).getD (0, 0, 0, 0, 0, 0)
theorem xu_of {mi : xmi} {y : Nat} {q : Nat × Nat × Nat × Nat × Nat × Nat} (h : xg mi y = some q) : xu mi y = q := by unfold xu; rw [h]; rfl
/-- a method that is called -/
def xMok (z : Nat) : Prop := Cond.code (nm z) (bys z) (xu mi z).2.2.2.2.2 (rtt z) ∈ gw ∧ Cond.initialized (nm z).cls ∈ gw ∧ plainFor (nm z) = true ∧ (nm z).cls ≠ "java/lang/invoke/MethodHandle" ∧ (nm z).cls ≠ "java/lang/invoke/VarHandle" ∧ (parseMethodDescriptor (nm z).desc).map (fun d => d.parameters.length) = some (xu mi z).2.2.1 ∧ (xu mi z).2.2.2.2.2 ≤ 24
def xFok (y i ci k : Nat) : Prop := ∃ (C : String) (T : u_T) (N : Nat), cl[ci]? = some (C, T, N) ∧ k < N ∧ Cond.fieldLink (nm y).cls i (T k).1 (T k).2.1 (T k).2.2.1 ∈ gw ∧ ∀ w ∈ u_ws C T N, w ∈ gw
def xPok (y i ci k tc : Nat) : Prop := ∃ (C : String) (T : u_T) (N : Nat) (ty : Nat → FieldType), cl[ci]? = some (C, T, N) ∧ k < N ∧ Cond.fieldLink (nm y).cls i (T k).1 (T k).2.1 (T k).2.2.1 ∈ gw ∧ (∀ w ∈ u_ws C T N, w ∈ gw) ∧ (∀ j, j < N → parseFieldDescriptor (T j).2.2.1 = some (ty j)) ∧ (∀ a, a < N → ∀ b, b < N → a ≠ b → (T a).2.1 ≠ (T b).2.1) ∧ xtc (ty k) = tc ∧ ((T k).2.2.2 = true → (nm y).name = "<init>" ∧ (T k).1 = (nm y).cls)
def xNok (y i ci : Nat) : Prop := ∃ (C : String) (T : u_T) (N : Nat) (ty : Nat → FieldType) (q : Nat × xct), cl[ci]? = some (C, T, N) ∧ ci < 13 ∧ (∀ w ∈ u_ws C T N, w ∈ gw) ∧ (∀ j, j < N → parseFieldDescriptor (T j).2.2.1 = some (ty j)) ∧ Cond.classLink (nm y).cls i C ∈ gw ∧ Cond.instantiable C N ∈ gw ∧ Cond.initialized C ∈ gw ∧ xg df ci = some q ∧ q.1 = N ∧ ∀ j, j < N → ∃ w : xv, xg q.2 j = some w ∧ xdv (ty j) w = true
/-- what an instruction's row of the tables must say -/
def xI (y pc : Nat) (ins : Instr) (len tg r1 r2 : Nat) : Prop :=
  match ins with
  | .iconst k => len = 1 ∧ Int32.ofInt k = nI r1
  | .bipush k => len = 2 ∧ (Int8.ofInt k).toInt32 = nI r1
  | .sipush k => len = 3 ∧ (Int16.ofInt k).toInt32 = nI r1
  | .lconst k => len = 1 ∧ Int64.ofNat (k : Nat) = lN r1
  | .ldc i => len = 2 ∧ (r2 = 0 → Cond.constant (nm y).cls i (nI r1) ∈ gw) ∧ (r2 = 1 → (nm y).cls = (txt 1).1 ∧ i = (txt 1).2.1) ∧ (r2 = 2 → (nm y).cls = (txt 3).1 ∧ i = (txt 3).2.1)
  | .ldc_w i => len = 3 ∧ Cond.constant (nm y).cls i (nI r1) ∈ gw
  | .ldc2_w i => len = 3 ∧ Cond.constantLong (nm y).cls i (lN r1) ∈ gw
  | .iload i => len = 2 ∧ i = r1
  | .lload i => len = 2 ∧ i = r1
  | .aload i => len = 2 ∧ i = r1
  | .iload_n k => len = 1 ∧ (k : Nat) = r1
  | .lload_n k => len = 1 ∧ (k : Nat) = r1
  | .aload_n k => len = 1 ∧ (k : Nat) = r1
  | .istore i => len = 2 ∧ i = r1 ∧ r1 < (xu mi y).2.2.2.2.2
  | .astore i => len = 2 ∧ i = r1 ∧ r1 < (xu mi y).2.2.2.2.2
  | .lstore i => len = 2 ∧ i = r1 ∧ r1 + 1 < (xu mi y).2.2.2.2.2
  | .istore_n k => len = 1 ∧ (k : Nat) = r1 ∧ r1 < (xu mi y).2.2.2.2.2
  | .astore_n k => len = 1 ∧ (k : Nat) = r1 ∧ r1 < (xu mi y).2.2.2.2.2
  | .lstore_n k => len = 1 ∧ (k : Nat) = r1 ∧ r1 + 1 < (xu mi y).2.2.2.2.2
  | .iinc i k => len = 3 ∧ i = r1 ∧ r1 < (xu mi y).2.2.2.2.2 ∧ Int32.ofInt k = nI r2
  | .goto off => len = 3 ∧ (pc : Int) + off = (tg : Int)
  | .if_icmp _ off => len = 3 ∧ (pc : Int) + off = (tg : Int)
  | .ifCond _ off => len = 3 ∧ (pc : Int) + off = (tg : Int)
  | .ifnull off => len = 3 ∧ (pc : Int) + off = (tg : Int)
  | .ifnonnull off => len = 3 ∧ (pc : Int) + off = (tg : Int)
  | .tableswitch _ lo hi _ => -2147483648 ≤ lo ∧ hi < 2147483648 ∧ lo ≤ hi
  | .lookupswitch _ ps => (ps.toList.zip (ps.toList.drop 1)).all (fun (a, next) => a.1 < next.1) = true
  | .getfield i => len = 3 ∧ (r1 < 13 → xFok cl nm gw y i r1 r2) ∧ (r1 = 98 → (r2 = 0 → Cond.fieldLink (nm y).cls i "java/lang/String" "value" "[B" ∈ gw) ∧ (r2 ≠ 0 → Cond.fieldLink (nm y).cls i "java/lang/String" "coder" "B" ∈ gw))
  | .putfield i => len = 3 ∧ r1 < 13 ∧ xPok cl nm gw y i r1 r2 tg
  | .getstatic i => len = 3 ∧ (r1 = 0 → Cond.fieldLink (nm y).cls i "java/lang/String" "COMPACT_STRINGS" "Z" ∈ gw) ∧ (r1 ≠ 0 → Cond.fieldLink (nm y).cls i "jdk/internal/util/Preconditions" "SIOOBE_FORMATTER" "Ljava/util/function/BiFunction;" ∈ gw)
  | .new i => len = 3 ∧ xNok cl df nm gw y i r1
  | .newarray ty => len = 2 ∧ Cond.arrayClass (newarray.typeOf ty) ∈ gw ∧ ((ty = .int ∧ r1 = 13 ∧ r2 = 0) ∨ (ty = .long ∧ r1 = 14 ∧ r2 = 1) ∨ (ty = .byte ∧ r1 = 15 ∧ r2 = 0))
  | .anewarray i => len = 3 ∧ 20 ≤ r1 ∧ ∃ r : vw_C, cl[r1 - 20]? = some r ∧ Cond.classLink (nm y).cls i r.1 ∈ gw ∧ r.1 ∈ ovr
  | .invokevirtual i => len = 3 ∧ xMok mi bys nm rtt gw r1 ∧ Cond.methodLink (nm y).cls i (nm r1) ∈ gw ∧ Cond.instanceMethod (nm r1) ∈ gw ∧ Cond.selects (nm r1).cls (nm r1) (nm r1) ∈ gw ∧ ((xu mi r1).2.2.2.1 < 13 → ∃ r : vw_C, cl[(xu mi r1).2.2.2.1]? = some r ∧ r.1 = (nm r1).cls) ∧ ((xu mi r1).2.2.2.1 = 98 → (nm r1).cls = "java/lang/String")
  | .invokespecial i => len = 3 ∧ (r2 = 6 → Cond.methodLink (nm y).cls i objectInit ∈ gw ∧ Cond.instanceMethod objectInit ∈ gw ∧ Cond.code objectInit ⟨#[0xb1]⟩ 1 none ∈ gw) ∧
      (r2 ≠ 6 → xMok mi bys nm rtt gw r1 ∧ rtt r1 = none ∧ (nm r1).name = "<init>" ∧ Cond.instanceMethod (nm r1) ∈ gw ∧ (r2 ≠ 5 → Cond.methodLink (nm y).cls i (nm r1) ∈ gw) ∧ (r2 = 5 → ∃ host : String, ((nm y).cls, i, nm r1, host) ∈ nest))
  | .invokestatic i => len = 3 ∧ (r2 = 8 → Cond.methodLink (nm y).cls i arraycopyName ∈ gw ∧ Cond.native arraycopyName ∈ gw ∧ Cond.static arraycopyName ∈ gw ∧ Cond.initialized "java/lang/System" ∈ gw) ∧
      (r2 ≠ 8 → xMok mi bys nm rtt gw r1 ∧ Cond.methodLink (nm y).cls i (nm r1) ∈ gw ∧ Cond.static (nm r1) ∈ gw)
  | .return_ => len = 1 ∧ ((xu mi y).2.2.2.2.1 = 0 → rtt y = none)
  | .ireturn => len = 1 ∧ ((xu mi y).2.2.2.2.1 = 1 → rtt y = some .int) ∧ ((xu mi y).2.2.2.2.1 = 3 → rtt y = some .boolean) ∧ ((xu mi y).2.2.2.2.1 = 4 → rtt y = some .char) ∧ ((xu mi y).2.2.2.2.1 = 5 → rtt y = some .byte)
  | .lreturn => len = 1 ∧ ((xu mi y).2.2.2.2.1 = 2 → rtt y = some .long)
  | _ => len = 1
def xOK : Prop := ∀ (y : Nat) (t : Lean.RArray (Nat × xins)) (pc : Nat) (e : xins), xg cd y = some t → xg t pc = some e → ∃ len, e.2.1 = pc + len ∧ decode (bys y) pc = .ok (e.1, len) ∧ xI cl nest txt ovr mi df bys nm rtt gw y pc e.1 len e.2.2.1 e.2.2.2.1 e.2.2.2.2
def xCtx (y d : Nat) (p : Program) (R : Room) (s : State) (m : MethodId) (args : Array Value) (meth : Method) (c : Code) : Prop :=
  p.tables.exec = Jvm.exec ∧ c.code = bys y ∧ c.maxLocals = (xu mi y).2.2.2.2.2 ∧ s.vm.findClass (nm y).cls = some m.cls ∧ (∀ w ∈ gw, w.before args s = true) ∧ va_K D cl [] s ∧ xEX A sv ex el eb nest txt ovr s ∧ (∀ q, s.heap.size ≤ q → A q) ∧ meth.name = (nm y).name ∧ d ≤ R.frames ∧ 43 * d ≤ R.locals ∧ (xu mi y).1 ≤ R.cells ∧ (xu mi y).2.1 ≤ R.slots
/-- an answer, at an instruction that gives it -/
def xrt (y pc : Nat) (as : List Nat) (lr : Option xv) (rv : Option Value) : Prop :=
  (rtt y = none ∧ lr = none ∧ rv = none ∧ decode (bys y) pc = .ok (.return_, 1)) ∨
  (∃ (w : xv) (x : Int32) (ty : FieldType), rtt y = some ty ∧ lr = some w ∧ rv = some (.int x) ∧ xden sv ex as w (.int x) ∧ narrow ty (.int x) = .int x ∧ decode (bys y) pc = .ok (.ireturn, 1)) ∨
  (∃ (w : xv) (x : Int64), rtt y = some .long ∧ lr = some w ∧ rv = some (.long x) ∧ xden sv ex as w (.long x) ∧ decode (bys y) pc = .ok (.lreturn, 1))
def xRet (y : Nat) (L : List xleaf) (p : Program) (e : Env) (R : Room) (s : State) (m : MethodId) (args : Array Value) (below : List Frame) (meth : Method) (c : Code) (Q : State → Prop) (as : List Nat) : Prop :=
  ∀ q ∈ L, ∀ (as' : List Nat) (ws : va_W) (H : Heap) (locs : List Loc) (cn sn pc : Nat) (la : Array Slot) (rv : Option Value), xle as as' → xWorld D cl A sv ex s as' q.1 q.2.1 q.2.2.1 ws H locs → cn ≤ (xu mi y).1 → sn ≤ (xu mi y).2.1 → xrt sv ex bys rtt y pc as' q.2.2.2 rv →
    W p l e R s m args below meth c H locs cn sn Q (F0 m pc la rv.toList)
def xGo (y d pc : Nat) (ls : List (Nat × xv)) (st : List xv) (bx : xbox) (h : xheap) (n cn sn : Nat) (L : List xleaf) : Prop :=
  ∀ (p : Program) (e : Env) (R : Room) (s : State) (m : MethodId) (args : Array Value) (below : List Frame) (meth : Method) (c : Code) (Q : State → Prop) (as : List Nat) (ws : va_W) (H : Heap) (locs : List Loc) (la : Array Slot) (stv : List Value),
    xCtx D cl A sv ex el eb nest txt ovr mi bys nm gw y d p R s m args meth c → cn ≤ (xu mi y).1 → sn ≤ (xu mi y).2.1 → xWorld D cl A sv ex s as bx h n ws H locs → xFrm sv ex as (xu mi y).2.2.2.2.2 ls st la stv →
    xRet l D cl A sv ex mi bys rtt y L p e R s m args below meth c Q as → W p l e R s m args below meth c H locs cn sn Q (F0 m pc la stv)
def xSnd (rec : xF) : Prop := ∀ (y d pc : Nat) (ls : List (Nat × xv)) (st : List xv) (bx : xbox) (h : xheap) (n cn sn : Nat) (L : List xleaf), rec y d pc ls st bx h n cn sn = some L → xGo l D cl A sv ex el eb nest txt ovr mi bys nm rtt gw y d pc ls st bx h n cn sn L
/-- a called method's start and end -/
def xPc (as : List Nat) (h : xheap) (n : Nat) (av : List Value) : Array Value → State → Prop := fun v U => v = av.toArray ∧ (∃ ws : va_W, xhR cl sv ex U as h n ws ∧ va_P D cl ws U.heap ∧ va_D A ws) ∧ va_K D cl [] U ∧ xEX A sv ex el eb nest txt ovr U ∧ ∀ q, U.heap.size ≤ q → A q
def xQc (as : List Nat) (L : List xleaf) : Array Value → State → Outcome → State → Prop := fun _ st oc t =>
  (∃ q ∈ L, ∃ (as' : List Nat) (ws : va_W) (rv : Option Value), xle as as' ∧ xbxo sv q.1 ∧ xhR cl sv ex t as' q.2.1 q.2.2.1 ws ∧ va_P D cl ws t.heap ∧ va_D A ws ∧ oc = .returned rv ∧ (match q.2.2.2 with
    | none => rv = none
    | some w => ∃ v, rv = some v ∧ xden sv ex as' w v)) ∧ va_F A st t
theorem xmet {rec : xF} (hrec : xSnd l D cl A sv ex el eb nest txt ovr mi bys nm rtt gw rec) {z d n : Nat} {bx : xbox} {h : xheap} {ar : List xv} {L : List xleaf} (hr : rec z d 0 (xarg 0 ar) [] bx h n 0 0 = some L) (mok : xMok mi bys nm rtt gw z) {as : List Nat} {av : List Value} (hav : xstR sv ex as ar av) (hwd : xwds ar ≤ (xu mi z).2.2.2.2.2) (hbx : xbxo sv bx) :
    Met l (nm z) (Cond.code (nm z) (bys z) (xu mi z).2.2.2.2.2 (rtt z) :: gw) ({ frames := d, cells := (xu mi z).1, slots := (xu mi z).2.1, locals := 43 * d }) (xPc D cl A sv ex el eb nest txt ovr as h n av) (xQc D cl A sv ex as L) (xu mi z).1 (xu mi z).2.1 A := by
  refine va_MetF (cc := bys z) (maxL := (xu mi z).2.2.2.2.2) (ret := rtt z) mok.2.2.1 rfl ?_
  intro p e s m args below meth c s₁ B hml hv
  obtain ⟨rfl, ⟨ws, hh, hP, hD⟩, hK, hEX, hA⟩ := hv
  have hts := atoms_spec (ws := Cond.code (nm z) (bys z) (xu mi z).2.2.2.2.2 (rtt z) :: gw) B.pre
  have hown : s.vm.findClass (nm z).cls = some m.cls := findClass_of_methodNamed B.named
  have hlocks := B.notSynchronized
  have hex := B.exec
  have hb := B.bytes
  have hret := B.returns
  have hl := lv_entry av (n := (xu mi z).2.2.2.2.2) (by rw [xsl_len sv ex hav]; exact hwd)
  rw [lg_entry_eq]
  refine hrec z d 0 (xarg 0 ar) [] bx h n 0 0 L hr p e _ s m _ below meth c _ as ws s.heap [] _ [] ⟨B.exec, B.bytes, hml, hown, fun w hw => hts w (List.mem_cons_of_mem _ hw), hK, hEX, hA, (name_of_methodNamed B.named B.method).1, Nat.le_refl _, Nat.le_refl _, Nat.le_refl _, Nat.le_refl _⟩ (Nat.zero_le _) (Nat.zero_le _) ⟨hbx, hh, hP, hD, va_S.rf⟩ ⟨⟨_, hl, xarg_ok sv ex 0 hav⟩, trivial⟩ ?_
  intro q hq as' ws' H locs cn sn pc la rv hle hw hc hs hrt
  obtain ⟨w1, w2, w3, w4, w5⟩ := hw
  refine W.widen hc hs ?_
  rcases hrt with ⟨r1, r2, r3, r4⟩ | ⟨w, x, ty, r1, r2, r3, r4, r5, r6⟩ | ⟨w, x, r1, r2, r3, r4, r5⟩
  · subst r3
    refine W.vret hex hb (hret.trans r1) (fun t ht hW => ?_) w5.2.2 r4 hlocks
    exact ⟨⟨q, hq, as', ws', none, hle, w1, xhR.moved cl sv ex hW.alike w2, by rw [ht]; exact w3, w4, rfl, by rw [r2]⟩, w5.F ht⟩
  · subst r3
    refine W.zret hex hb (hret.trans r1) r5 (fun t ht hW => ?_) w5.2.2 r6 hlocks
    exact ⟨⟨q, hq, as', ws', some (.int x), hle, w1, xhR.moved cl sv ex hW.alike w2, by rw [ht]; exact w3, w4, rfl, by rw [r2]; exact ⟨_, rfl, r4⟩⟩, w5.F ht⟩
  · subst r3
    refine W.lret hex hb (hret.trans r1) (fun t ht hW => ?_) w5.2.2 r5 hlocks
    exact ⟨⟨q, hq, as', ws', some (.long x), hle, w1, xhR.moved cl sv ex hW.alike w2, by rw [ht]; exact w3, w4, rfl, by rw [r2]; exact ⟨_, rfl, r4⟩⟩, w5.F ht⟩
end Snd
