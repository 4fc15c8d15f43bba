section
/-! What the tables must say, and what the explorer's end promises -/
section Snd
variable (l : Launch) (D : va_G) (cl : List vw_C) (A : Nat → Prop) (sv : Nat → Int32) (ex : Nat → Nat) (el : Nat → Nat) (eb : Nat → List Nat) (nest : List (String × Nat × MethodName × String)) (txt : Nat → String × Nat × String) (ovr : List String)
variable (cd : xcd) (mi : xmi) (df : xdf) (bys : Nat → ByteArray) (nm : Nat → MethodName) (rtt : Nat → Option FieldType) (gw : List Cond)
noncomputable def xu (y : Nat) : Nat × Nat × Nat × Nat × Nat × Nat := (xg mi y).getD (0, 0, 0, 0, 0, 0)
theorem xu_of {mi : xmi} {y : Nat} {q : Nat × Nat × Nat × Nat × Nat × Nat} (h : xg mi y = some q) : xu mi y = q := by unfold xu; rw [h]; rfl
/-- a method that is called -/
def xMok (z : Nat) : Prop := Cond.code (nm z) (bys z) (xu mi z).2.2.2.2.2 (rtt z) ∈ gw ∧ Cond.initialized (nm z).cls ∈ gw ∧ plainFor (nm z) = true ∧ (nm z).cls ≠ "java/lang/invoke/MethodHandle" ∧ (nm z).cls ≠ "java/lang/invoke/VarHandle" ∧ (parseMethodDescriptor (nm z).desc).map (fun d => d.parameters.length) = some (xu mi z).2.2.1 ∧ (xu mi z).2.2.2.2.2 ≤ 24
def xFok (y i ci k : Nat) : Prop := ∃ (C : String) (T : u_T) (N : Nat), cl[ci]? = some (C, T, N) ∧ k < N ∧ Cond.fieldLink (nm y).cls i (T k).1 (T k).2.1 (T k).2.2.1 ∈ gw ∧ ∀ w ∈ u_ws C T N, w ∈ gw
def xPok (y i ci k tc : Nat) : Prop := ∃ (C : String) (T : u_T) (N : Nat) (ty : Nat → FieldType), cl[ci]? = some (C, T, N) ∧ k < N ∧ Cond.fieldLink (nm y).cls i (T k).1 (T k).2.1 (T k).2.2.1 ∈ gw ∧ (∀ w ∈ u_ws C T N, w ∈ gw) ∧ (∀ j, j < N → parseFieldDescriptor (T j).2.2.1 = some (ty j)) ∧ (∀ a, a < N → ∀ b, b < N → a ≠ b → (T a).2.1 ≠ (T b).2.1) ∧ xtc (ty k) = tc ∧ ((T k).2.2.2 = true → (nm y).name = "<init>" ∧ (T k).1 = (nm y).cls)
def xNok (y i ci : Nat) : Prop := ∃ (C : String) (T : u_T) (N : Nat) (ty : Nat → FieldType) (q : Nat × xct), cl[ci]? = some (C, T, N) ∧ ci < 13 ∧ (∀ w ∈ u_ws C T N, w ∈ gw) ∧ (∀ j, j < N → parseFieldDescriptor (T j).2.2.1 = some (ty j)) ∧ Cond.classLink (nm y).cls i C ∈ gw ∧ Cond.instantiable C N ∈ gw ∧ Cond.initialized C ∈ gw ∧ xg df ci = some q ∧ q.1 = N ∧ ∀ j, j < N → ∃ w : xv, xg q.2 j = some w ∧ xdv (ty j) w = true
/-- what an instruction's row of the tables must say -/
def xI (y pc : Nat) (ins : Instr) (len tg r1 r2 : Nat) : Prop :=
  match ins with
  | .iconst k => len = 1 ∧ Int32.ofInt k = nI r1
  | .bipush k => len = 2 ∧ (Int8.ofInt k).toInt32 = nI r1
  | .sipush k => len = 3 ∧ (Int16.ofInt k).toInt32 = nI r1
  | .lconst k => len = 1 ∧ Int64.ofNat (k : Nat) = lN r1
  | .ldc i => len = 2 ∧ (r2 = 0 → Cond.constant (nm y).cls i (nI r1) ∈ gw) ∧ (r2 = 1 → (nm y).cls = (txt 1).1 ∧ i = (txt 1).2.1) ∧ (r2 = 2 → (nm y).cls = (txt 3).1 ∧ i = (txt 3).2.1)
  | .ldc_w i => len = 3 ∧ Cond.constant (nm y).cls i (nI r1) ∈ gw
  | .ldc2_w i => len = 3 ∧ Cond.constantLong (nm y).cls i (lN r1) ∈ gw
  | .iload i => len = 2 ∧ i = r1
  | .lload i => len = 2 ∧ i = r1
  | .aload i => len = 2 ∧ i = r1
  | .iload_n k => len = 1 ∧ (k : Nat) = r1
  | .lload_n k => len = 1 ∧ (k : Nat) = r1
  | .aload_n k => len = 1 ∧ (k : Nat) = r1
  | .istore i => len = 2 ∧ i = r1 ∧ r1 < (xu mi y).2.2.2.2.2
  | .astore i => len = 2 ∧ i = r1 ∧ r1 < (xu mi y).2.2.2.2.2
  | .lstore i => len = 2 ∧ i = r1 ∧ r1 + 1 < (xu mi y).2.2.2.2.2
  | .istore_n k => len = 1 ∧ (k : Nat) = r1 ∧ r1 < (xu mi y).2.2.2.2.2
  | .astore_n k => len = 1 ∧ (k : Nat) = r1 ∧ r1 < (xu mi y).2.2.2.2.2
  | .lstore_n k => len = 1 ∧ (k : Nat) = r1 ∧ r1 + 1 < (xu mi y).2.2.2.2.2
  | .iinc i k => len = 3 ∧ i = r1 ∧ r1 < (xu mi y).2.2.2.2.2 ∧ Int32.ofInt k = nI r2
  | .goto off => len = 3 ∧ (pc : Int) + off = (tg : Int)
  | .if_icmp _ off => len = 3 ∧ (pc : Int) + off = (tg : Int)
  | .ifCond _ off => len = 3 ∧ (pc : Int) + off = (tg : Int)
  | .ifnull off => len = 3 ∧ (pc : Int) + off = (tg : Int)
  | .ifnonnull off => len = 3 ∧ (pc : Int) + off = (tg : Int)
  | .tableswitch _ lo hi _ => -2147483648 ≤ lo ∧ hi < 2147483648 ∧ lo ≤ hi
  | .lookupswitch _ ps => (ps.toList.zip (ps.toList.drop 1)).all (fun (a, next) => a.1 < next.1) = true
  | .getfield i => len = 3 ∧ (r1 < 13 → xFok cl nm gw y i r1 r2) ∧ (r1 = 98 → (r2 = 0 → Cond.fieldLink (nm y).cls i "java/lang/String" "value" "[B" ∈ gw) ∧ (r2 ≠ 0 → Cond.fieldLink (nm y).cls i "java/lang/String" "coder" "B" ∈ gw))
  | .putfield i => len = 3 ∧ r1 < 13 ∧ xPok cl nm gw y i r1 r2 tg
  | .getstatic i => len = 3 ∧ (r1 = 0 → Cond.fieldLink (nm y).cls i "java/lang/String" "COMPACT_STRINGS" "Z" ∈ gw) ∧ (r1 ≠ 0 → Cond.fieldLink (nm y).cls i "jdk/internal/util/Preconditions" "SIOOBE_FORMATTER" "Ljava/util/function/BiFunction;" ∈ gw)
  | .new i => len = 3 ∧ xNok cl df nm gw y i r1
  | .newarray ty => len = 2 ∧ Cond.arrayClass (newarray.typeOf ty) ∈ gw ∧ ((ty = .int ∧ r1 = 13 ∧ r2 = 0) ∨ (ty = .long ∧ r1 = 14 ∧ r2 = 1) ∨ (ty = .byte ∧ r1 = 15 ∧ r2 = 0))
  | .anewarray i => len = 3 ∧ 20 ≤ r1 ∧ ∃ r : vw_C, cl[r1 - 20]? = some r ∧ Cond.classLink (nm y).cls i r.1 ∈ gw ∧ r.1 ∈ ovr
  | .invokevirtual i => len = 3 ∧ xMok mi bys nm rtt gw r1 ∧ Cond.methodLink (nm y).cls i (nm r1) ∈ gw ∧ Cond.instanceMethod (nm r1) ∈ gw ∧ Cond.selects (nm r1).cls (nm r1) (nm r1) ∈ gw ∧ ((xu mi r1).2.2.2.1 < 13 → ∃ r : vw_C, cl[(xu mi r1).2.2.2.1]? = some r ∧ r.1 = (nm r1).cls) ∧ ((xu mi r1).2.2.2.1 = 98 → (nm r1).cls = "java/lang/String")
  | .invokespecial i => len = 3 ∧ (r2 = 6 → Cond.methodLink (nm y).cls i objectInit ∈ gw ∧ Cond.instanceMethod objectInit ∈ gw ∧ Cond.code objectInit ⟨#[0xb1]⟩ 1 none ∈ gw) ∧
      (r2 ≠ 6 → xMok mi bys nm rtt gw r1 ∧ rtt r1 = none ∧ (nm r1).name = "<init>" ∧ Cond.instanceMethod (nm r1) ∈ gw ∧ (r2 ≠ 5 → Cond.methodLink (nm y).cls i (nm r1) ∈ gw) ∧ (r2 = 5 → ∃ host : String, ((nm y).cls, i, nm r1, host) ∈ nest))
  | .invokestatic i => len = 3 ∧ (r2 = 8 → Cond.methodLink (nm y).cls i arraycopyName ∈ gw ∧ Cond.native arraycopyName ∈ gw ∧ Cond.static arraycopyName ∈ gw ∧ Cond.initialized "java/lang/System" ∈ gw) ∧
      (r2 ≠ 8 → xMok mi bys nm rtt gw r1 ∧ Cond.methodLink (nm y).cls i (nm r1) ∈ gw ∧ Cond.static (nm r1) ∈ gw)
  | .return_ => len = 1 ∧ ((xu mi y).2.2.2.2.1 = 0 → rtt y = none)
  | .ireturn => len = 1 ∧ ((xu mi y).2.2.2.2.1 = 1 → rtt y = some .int) ∧ ((xu mi y).2.2.2.2.1 = 3 → rtt y = some .boolean) ∧ ((xu mi y).2.2.2.2.1 = 4 → rtt y = some .char) ∧ ((xu mi y).2.2.2.2.1 = 5 → rtt y = some .byte)
  | .lreturn => len = 1 ∧ ((xu mi y).2.2.2.2.1 = 2 → rtt y = some .long)
  | _ => len = 1
def xOK : Prop := ∀ (y : Nat) (t : Lean.RArray (Nat × xins)) (pc : Nat) (e : xins), xg cd y = some t → xg t pc = some e → ∃ len, e.2.1 = pc + len ∧ decode (bys y) pc = .ok (e.1, len) ∧ xI cl nest txt ovr mi df bys nm rtt gw y pc e.1 len e.2.2.1 e.2.2.2.1 e.2.2.2.2
def xCtx (y d : Nat) (p : Program) (R : Room) (s : State) (m : MethodId) (args : Array Value) (meth : Method) (c : Code) : Prop :=
  p.tables.exec = Jvm.exec ∧ c.code = bys y ∧ c.maxLocals = (xu mi y).2.2.2.2.2 ∧ s.vm.findClass (nm y).cls = some m.cls ∧ (∀ w ∈ gw, w.before args s = true) ∧ va_K D cl [] s ∧ xEX A sv ex el eb nest txt ovr s ∧ (∀ q, s.heap.size ≤ q → A q) ∧ meth.name = (nm y).name ∧ d ≤ R.frames ∧ 43 * d ≤ R.locals ∧ (xu mi y).1 ≤ R.cells ∧ (xu mi y).2.1 ≤ R.slots
/-- an answer, at an instruction that gives it -/
def xrt (y pc : Nat) (as : List Nat) (lr : Option xv) (rv : Option Value) : Prop :=
  (rtt y = none ∧ lr = none ∧ rv = none ∧ decode (bys y) pc = .ok (.return_, 1)) ∨
  (∃ (w : xv) (x : Int32) (ty : FieldType), rtt y = some ty ∧ lr = some w ∧ rv = some (.int x) ∧ xden sv ex as w (.int x) ∧ narrow ty (.int x) = .int x ∧ decode (bys y) pc = .ok (.ireturn, 1)) ∨
  (∃ (w : xv) (x : Int64), rtt y = some .long ∧ lr = some w ∧ rv = some (.long x) ∧ xden sv ex as w (.long x) ∧ decode (bys y) pc = .ok (.lreturn, 1))
def xRet (y : Nat) (L : List xleaf) (p : Program) (e : Env) (R : Room) (s : State) (m : MethodId) (args : Array Value) (below : List Frame) (meth : Method) (c : Code) (Q : State → Prop) (as : List Nat) : Prop :=
  ∀ q ∈ L, ∀ (as' : List Nat) (ws : va_W) (H : Heap) (locs : List Loc) (cn sn pc : Nat) (la : Array Slot) (rv : Option Value), xle as as' → xWorld D cl A sv ex s as' q.1 q.2.1 q.2.2.1 ws H locs → cn ≤ (xu mi y).1 → sn ≤ (xu mi y).2.1 → xrt sv ex bys rtt y pc as' q.2.2.2 rv →
    W p l e R s m args below meth c H locs cn sn Q (F0 m pc la rv.toList)
def xGo (y d pc : Nat) (ls : List (Nat × xv)) (st : List xv) (bx : xbox) (h : xheap) (n cn sn : Nat) (L : List xleaf) : Prop :=
  ∀ (p : Program) (e : Env) (R : Room) (s : State) (m : MethodId) (args : Array Value) (below : List Frame) (meth : Method) (c : Code) (Q : State → Prop) (as : List Nat) (ws : va_W) (H : Heap) (locs : List Loc) (la : Array Slot) (stv : List Value),
    xCtx D cl A sv ex el eb nest txt ovr mi bys nm gw y d p R s m args meth c → cn ≤ (xu mi y).1 → sn ≤ (xu mi y).2.1 → xWorld D cl A sv ex s as bx h n ws H locs → xFrm sv ex as (xu mi y).2.2.2.2.2 ls st la stv →
    xRet l D cl A sv ex mi bys rtt y L p e R s m args below meth c Q as → W p l e R s m args below meth c H locs cn sn Q (F0 m pc la stv)
def xSnd (rec : xF) : Prop := ∀ (y d pc : Nat) (ls : List (Nat × xv)) (st : List xv) (bx : xbox) (h : xheap) (n cn sn : Nat) (L : List xleaf), rec y d pc ls st bx h n cn sn = some L → xGo l D cl A sv ex el eb nest txt ovr mi bys nm rtt gw y d pc ls st bx h n cn sn L
/-- a called method's start and end -/
def xPc (as : List Nat) (h : xheap) (n : Nat) (av : List Value) : Array Value → State → Prop := fun v U => v = av.toArray ∧ (∃ ws : va_W, xhR cl sv ex U as h n ws ∧ va_P D cl ws U.heap ∧ va_D A ws) ∧ va_K D cl [] U ∧ xEX A sv ex el eb nest txt ovr U ∧ ∀ q, U.heap.size ≤ q → A q
def xQc (as : List Nat) (L : List xleaf) : Array Value → State → Outcome → State → Prop := fun _ st oc t =>
  (∃ q ∈ L, ∃ (as' : List Nat) (ws : va_W) (rv : Option Value), xle as as' ∧ xbxo sv q.1 ∧ xhR cl sv ex t as' q.2.1 q.2.2.1 ws ∧ va_P D cl ws t.heap ∧ va_D A ws ∧ oc = .returned rv ∧ (match q.2.2.2 with
    | none => rv = none
    | some w => ∃ v, rv = some v ∧ xden sv ex as' w v)) ∧ va_F A st t
theorem xmet {rec : xF} (hrec : xSnd l D cl A sv ex el eb nest txt ovr mi bys nm rtt gw rec) {z d n : Nat} {bx : xbox} {h : xheap} {ar : List xv} {L : List xleaf} (hr : rec z d 0 (xarg 0 ar) [] bx h n 0 0 = some L) (mok : xMok mi bys nm rtt gw z) {as : List Nat} {av : List Value} (hav : xstR sv ex as ar av) (hwd : xwds ar ≤ (xu mi z).2.2.2.2.2) (hbx : xbxo sv bx) :
    Met l (nm z) (Cond.code (nm z) (bys z) (xu mi z).2.2.2.2.2 (rtt z) :: gw) ({ frames := d, cells := (xu mi z).1, slots := (xu mi z).2.1, locals := 43 * d }) (xPc D cl A sv ex el eb nest txt ovr as h n av) (xQc D cl A sv ex as L) (xu mi z).1 (xu mi z).2.1 A := by
  refine va_MetF (cc := bys z) (maxL := (xu mi z).2.2.2.2.2) (ret := rtt z) mok.2.2.1 rfl ?_
  intro p e s m args below meth c s₁ B hml hv
  obtain ⟨rfl, ⟨ws, hh, hP, hD⟩, hK, hEX, hA⟩ := hv
  have hts := atoms_spec (ws := Cond.code (nm z) (bys z) (xu mi z).2.2.2.2.2 (rtt z) :: gw) B.pre
  have hown : s.vm.findClass (nm z).cls = some m.cls := findClass_of_methodNamed B.named
  have hlocks := B.notSynchronized
  have hex := B.exec
  have hb := B.bytes
  have hret := B.returns
  have hl := lv_entry av (n := (xu mi z).2.2.2.2.2) (by rw [xsl_len sv ex hav]; exact hwd)
  rw [lg_entry_eq]
  refine hrec z d 0 (xarg 0 ar) [] bx h n 0 0 L hr p e _ s m _ below meth c _ as ws s.heap [] _ [] ⟨B.exec, B.bytes, hml, hown, fun w hw => hts w (List.mem_cons_of_mem _ hw), hK, hEX, hA, (name_of_methodNamed B.named B.method).1, Nat.le_refl _, Nat.le_refl _, Nat.le_refl _, Nat.le_refl _⟩ (Nat.zero_le _) (Nat.zero_le _) ⟨hbx, hh, hP, hD, va_S.rf⟩ ⟨⟨_, hl, xarg_ok sv ex 0 hav⟩, trivial⟩ ?_
  intro q hq as' ws' H locs cn sn pc la rv hle hw hc hs hrt
  obtain ⟨w1, w2, w3, w4, w5⟩ := hw
  refine W.widen hc hs ?_
  rcases hrt with ⟨r1, r2, r3, r4⟩ | ⟨w, x, ty, r1, r2, r3, r4, r5, r6⟩ | ⟨w, x, r1, r2, r3, r4, r5⟩
  · subst r3
    refine W.vret hex hb (hret.trans r1) (fun t ht hW => ?_) w5.2.2 r4 hlocks
    exact ⟨⟨q, hq, as', ws', none, hle, w1, xhR.moved cl sv ex hW.alike w2, by rw [ht]; exact w3, w4, rfl, by rw [r2]⟩, w5.F ht⟩
  · subst r3
    refine W.zret hex hb (hret.trans r1) r5 (fun t ht hW => ?_) w5.2.2 r6 hlocks
    exact ⟨⟨q, hq, as', ws', some (.int x), hle, w1, xhR.moved cl sv ex hW.alike w2, by rw [ht]; exact w3, w4, rfl, by rw [r2]; exact ⟨_, rfl, r4⟩⟩, w5.F ht⟩
  · subst r3
    refine W.lret hex hb (hret.trans r1) (fun t ht hW => ?_) w5.2.2 r5 hlocks
    exact ⟨⟨q, hq, as', ws', some (.long x), hle, w1, xhR.moved cl sv ex hW.alike w2, by rw [ht]; exact w3, w4, rfl, by rw [r2]; exact ⟨_, rfl, r4⟩⟩, w5.F ht⟩
end Snd
end
section
/-! The step keeps its promise: frames, arithmetic -/
section Go
variable {l : Launch} {D : va_G} {cl : List vw_C} {A : Nat → Prop} {sv : Nat → Int32} {ex : Nat → Nat} {el : Nat → Nat} {eb : Nat → List Nat} {nest : List (String × Nat × MethodName × String)} {txt : Nat → String × Nat × String} {ovr : List String}
variable {mi : xmi} {df : xdf} {bys : Nat → ByteArray} {nm : Nat → MethodName} {rtt : Nat → Option FieldType} {gw : List Cond}
variable {rec : xF} {y d pc : Nat} {ls : List (Nat × xv)} {st : List xv} {bx : xbox} {h : xheap} {n cn sn : Nat} {L : List xleaf}
variable {p : Program} {e : Env} {R : Room} {s : State} {m : MethodId} {args : Array Value} {below : List Frame} {meth : Method} {c : Code} {Q : State → Prop} {as : List Nat} {ws : va_W} {H : Heap} {locs : List Loc} {la : Array Slot} {stv : List Value}
def xStp (l : Launch) (D : va_G) (cl : List vw_C) (A : Nat → Prop) (sv : Nat → Int32) (ex : Nat → Nat) (el : Nat → Nat) (eb : Nat → List Nat) (nest : List (String × Nat × MethodName × String)) (txt : Nat → String × Nat × String) (ovr : List String) (mi : xmi) (bys : Nat → ByteArray) (nm : Nat → MethodName) (rtt : Nat → Option FieldType) (gw : List Cond) (rec : xF) (y d : Nat) (ls : List (Nat × xv)) (st : List xv) (bx : xbox) (h : xheap) (n cn sn : Nat) (L : List xleaf)
    (p : Program) (e : Env) (R : Room) (s : State) (m : MethodId) (args : Array Value) (below : List Frame) (meth : Method) (c : Code) (Q : State → Prop) (as : List Nat) (ws : va_W) (H : Heap) (locs : List Loc) (la : Array Slot) (stv : List Value) : Prop :=
  xSnd l D cl A sv ex el eb nest txt ovr mi bys nm rtt gw rec ∧ xCtx D cl A sv ex el eb nest txt ovr mi bys nm gw y d p R s m args meth c ∧ cn ≤ (xu mi y).1 ∧ sn ≤ (xu mi y).2.1 ∧ xWorld D cl A sv ex s as bx h n ws H locs ∧ xFrm sv ex as (xu mi y).2.2.2.2.2 ls st la stv ∧ xRet l D cl A sv ex mi bys rtt y L p e R s m args below meth c Q as
theorem xkk (E : xStp l D cl A sv ex el eb nest txt ovr mi bys nm rtt gw rec y d ls st bx h n cn sn L p e R s m args below meth c Q as ws H locs la stv) {pc' : Nat} {ls' : List (Nat × xv)} {st' : List xv} {bx' : xbox} {h' : xheap} {n' cn' sn' : Nat} {L' : List xleaf} (hr : rec y d pc' ls' st' bx' h' n' cn' sn' = some L') (hL : ∀ q ∈ L', q ∈ L) {as' : List Nat} {ws' : va_W} {H' : Heap} {locs' : List Loc} {la' : Array Slot} {stv' : List Value}
    (hle : xle as as') (hc : cn' ≤ (xu mi y).1) (hs : sn' ≤ (xu mi y).2.1) (hw : xWorld D cl A sv ex s as' bx' h' n' ws' H' locs') (hf : xFrm sv ex as' (xu mi y).2.2.2.2.2 ls' st' la' stv') : W p l e R s m args below meth c H' locs' cn' sn' Q (F0 m pc' la' stv') :=
  E.1 y d pc' ls' st' bx' h' n' cn' sn' L' hr p e R s m args below meth c Q as' ws' H' locs' la' stv' E.2.1 hc hs hw hf (fun q hq as2 ws2 H2 locs2 cn2 sn2 pc2 la2 rv2 hle2 => E.2.2.2.2.2.2 q (hL q hq) as2 ws2 H2 locs2 cn2 sn2 pc2 la2 rv2 (hle.tr hle2))
theorem xk0 (E : xStp l D cl A sv ex el eb nest txt ovr mi bys nm rtt gw rec y d ls st bx h n cn sn L p e R s m args below meth c Q as ws H locs la stv) {pc' : Nat} {ls' : List (Nat × xv)} {st' : List xv} (hr : rec y d pc' ls' st' bx h n cn sn = some L) {la' : Array Slot} {stv' : List Value}
    (hf : xFrm sv ex as (xu mi y).2.2.2.2.2 ls' st' la' stv') : W p l e R s m args below meth c H locs cn sn Q (F0 m pc' la' stv') :=
  xkk E hr (fun _ q => q) (xle.rf _) E.2.2.1 E.2.2.2.1 E.2.2.2.2.1 hf
theorem xksp (E : xStp l D cl A sv ex el eb nest txt ovr mi bys nm rtt gw rec y d ls st bx h n cn sn L p e R s m args below meth c Q as ws H locs la stv) {i q : Nat} (hx : xspl (fun bx' => rec y d pc ls st bx' h n cn sn) bx i q = some L) : W p l e R s m args below meth c H locs cn sn Q (F0 m pc la stv) := by
  obtain ⟨hbx, hh, hP, hD, hS⟩ := E.2.2.2.2.1
  obtain ⟨bx', L', g1, g2, g3⟩ := xspl_ok hbx hx
  exact xkk E g2 g3 (xle.rf _) E.2.2.1 E.2.2.2.1 ⟨g1, hh, hP, hD, hS⟩ E.2.2.2.2.2.1
/-- an int operation of two -/
theorem xbi_go (E : xStp l D cl A sv ex el eb nest txt ovr mi bys nm rtt gw rec y d ls st bx h n cn sn L p e R s m args below meth c Q as ws H locs la stv) {nx : Nat} {f : Nat → Nat → Nat} {F : Int32 → Int32 → Int32} (hx : x_bi rec nx y d ls st bx h n cn sn f = some L) (hF : ∀ a b, nI (f a b) = F (nI a) (nI b))
    (row : ∀ (x z : Int32) (rest : List Value), W p l e R s m args below meth c H locs cn sn Q (F0 m nx la (.int (F x z) :: rest)) → W p l e R s m args below meth c H locs cn sn Q (F0 m pc la (.int z :: .int x :: rest))) : W p l e R s m args below meth c H locs cn sn Q (F0 m pc la stv) := by
  obtain ⟨b, a, r, rfl, k1, k2, g⟩ := x_bi_ok hx
  have hbx := E.2.2.2.2.1.1
  obtain ⟨hl, hst⟩ := E.2.2.2.2.2.1
  obtain ⟨vb, m1, rfl, hvb, hst⟩ := xstR_cons hst
  obtain ⟨va, m2, rfl, hva, hr⟩ := xstR_cons hst
  obtain ⟨z, rfl⟩ := xden.int sv ex hvb k1
  obtain ⟨x, rfl⟩ := xden.int sv ex hva k2
  refine row x z m2 ?_
  rcases g with ⟨x', z', q1, q2, q3⟩ | g
  · have e1 : x = nI x' := Value.int.inj (xci_ok sv ex hbx hva q1)
    have e2 : z = nI z' := Value.int.inj (xci_ok sv ex hbx hvb q2)
    subst e1; subst e2
    exact xk0 E q3 ⟨hl, by show Value.int _ = Value.int _; rw [hF], hr⟩
  · exact xk0 E g ⟨hl, ⟨_, rfl⟩, hr⟩
theorem xdv_go (E : xStp l D cl A sv ex el eb nest txt ovr mi bys nm rtt gw rec y d ls st bx h n cn sn L p e R s m args below meth c Q as ws H locs la stv) {nx : Nat} {f : Nat → Nat → Nat} {F : Int32 → Int32 → Int32} (hx : x_dv rec nx y d ls st bx h n cn sn f = some L) (hF : ∀ a b, nI (f a b) = F (nI a) (nI b))
    (row : ∀ (x z : Int32) (rest : List Value), ¬ z = 0 → W p l e R s m args below meth c H locs cn sn Q (F0 m nx la (.int (F x z) :: rest)) → W p l e R s m args below meth c H locs cn sn Q (F0 m pc la (.int z :: .int x :: rest))) : W p l e R s m args below meth c H locs cn sn Q (F0 m pc la stv) := by
  obtain ⟨b, a, r, x, z, rfl, q1, q2, hz, g⟩ := x_dv_ok hx
  have hbx := E.2.2.2.2.1.1
  obtain ⟨hl, hst⟩ := E.2.2.2.2.2.1
  obtain ⟨vb, m1, rfl, hvb, hst⟩ := xstR_cons hst
  obtain ⟨va, m2, rfl, hva, hr⟩ := xstR_cons hst
  have e1 := xci_ok sv ex hbx hva q1
  have e2 := xci_ok sv ex hbx hvb q2
  subst e1; subst e2
  refine row _ _ m2 (nI_z hz) ?_
  exact xk0 E g ⟨hl, by show Value.int _ = Value.int _; rw [hF], hr⟩
theorem xbl_go (E : xStp l D cl A sv ex el eb nest txt ovr mi bys nm rtt gw rec y d ls st bx h n cn sn L p e R s m args below meth c Q as ws H locs la stv) {nx : Nat} {f : Nat → Nat → Nat} {F : Int64 → Int64 → Int64} (hx : x_bl rec nx y d ls st bx h n cn sn f = some L) (hF : ∀ a b, lN (f a b) = F (lN a) (lN b))
    (row : ∀ (x z : Int64) (rest : List Value), W p l e R s m args below meth c H locs cn sn Q (F0 m nx la (.long (F x z) :: rest)) → W p l e R s m args below meth c H locs cn sn Q (F0 m pc la (.long z :: .long x :: rest))) : W p l e R s m args below meth c H locs cn sn Q (F0 m pc la stv) := by
  obtain ⟨b, a, r, rfl, k1, k2, g⟩ := x_bl_ok hx
  have hbx := E.2.2.2.2.1.1
  obtain ⟨hl, hst⟩ := E.2.2.2.2.2.1
  obtain ⟨vb, m1, rfl, hvb, hst⟩ := xstR_cons hst
  obtain ⟨va, m2, rfl, hva, hr⟩ := xstR_cons hst
  obtain ⟨z, rfl⟩ := xden.long sv ex hvb k1
  obtain ⟨x, rfl⟩ := xden.long sv ex hva k2
  refine row x z m2 ?_
  rcases g with ⟨x', z', q1, q2, q3⟩ | g
  · have e1 : x = lN x' := Value.long.inj (xcl_ok sv ex hbx hva q1)
    have e2 : z = lN z' := Value.long.inj (xcl_ok sv ex hbx hvb q2)
    subst e1; subst e2
    exact xk0 E q3 ⟨hl, by show Value.long _ = Value.long _; rw [hF], hr⟩
  · exact xk0 E g ⟨hl, ⟨_, rfl⟩, hr⟩
theorem xdl_go (E : xStp l D cl A sv ex el eb nest txt ovr mi bys nm rtt gw rec y d ls st bx h n cn sn L p e R s m args below meth c Q as ws H locs la stv) {nx : Nat} {f : Nat → Nat → Nat} {F : Int64 → Int64 → Int64} (hx : x_dl rec nx y d ls st bx h n cn sn f = some L) (hF : ∀ a b, lN (f a b) = F (lN a) (lN b))
    (row : ∀ (x z : Int64) (rest : List Value), ¬ z = 0 → W p l e R s m args below meth c H locs cn sn Q (F0 m nx la (.long (F x z) :: rest)) → W p l e R s m args below meth c H locs cn sn Q (F0 m pc la (.long z :: .long x :: rest))) : W p l e R s m args below meth c H locs cn sn Q (F0 m pc la stv) := by
  obtain ⟨b, a, r, x, z, rfl, q1, q2, hz, g⟩ := x_dl_ok hx
  have hbx := E.2.2.2.2.1.1
  obtain ⟨hl, hst⟩ := E.2.2.2.2.2.1
  obtain ⟨vb, m1, rfl, hvb, hst⟩ := xstR_cons hst
  obtain ⟨va, m2, rfl, hva, hr⟩ := xstR_cons hst
  have e1 := xcl_ok sv ex hbx hva q1
  have e2 := xcl_ok sv ex hbx hvb q2
  subst e1; subst e2
  refine row _ _ m2 (lN_z hz) ?_
  exact xk0 E g ⟨hl, by show Value.long _ = Value.long _; rw [hF], hr⟩
theorem xsl_go (E : xStp l D cl A sv ex el eb nest txt ovr mi bys nm rtt gw rec y d ls st bx h n cn sn L p e R s m args below meth c Q as ws H locs la stv) {nx : Nat} {f : Nat → Nat → Nat} {F : Int64 → Int32 → Int64} (hx : x_sl rec nx y d ls st bx h n cn sn f = some L) (hF : ∀ a b, lN (f a b) = F (lN a) (nI b))
    (row : ∀ (x : Int64) (z : Int32) (rest : List Value), W p l e R s m args below meth c H locs cn sn Q (F0 m nx la (.long (F x z) :: rest)) → W p l e R s m args below meth c H locs cn sn Q (F0 m pc la (.int z :: .long x :: rest))) : W p l e R s m args below meth c H locs cn sn Q (F0 m pc la stv) := by
  obtain ⟨b, a, r, rfl, k1, k2, g⟩ := x_sl_ok hx
  have hbx := E.2.2.2.2.1.1
  obtain ⟨hl, hst⟩ := E.2.2.2.2.2.1
  obtain ⟨vb, m1, rfl, hvb, hst⟩ := xstR_cons hst
  obtain ⟨va, m2, rfl, hva, hr⟩ := xstR_cons hst
  obtain ⟨z, rfl⟩ := xden.int sv ex hvb k1
  obtain ⟨x, rfl⟩ := xden.long sv ex hva k2
  refine row x z m2 ?_
  rcases g with ⟨x', z', q1, q2, q3⟩ | g
  · have e1 : x = lN x' := Value.long.inj (xcl_ok sv ex hbx hva q1)
    have e2 : z = nI z' := Value.int.inj (xci_ok sv ex hbx hvb q2)
    subst e1; subst e2
    exact xk0 E q3 ⟨hl, by show Value.long _ = Value.long _; rw [hF], hr⟩
  · exact xk0 E g ⟨hl, ⟨_, rfl⟩, hr⟩
theorem xui_go (E : xStp l D cl A sv ex el eb nest txt ovr mi bys nm rtt gw rec y d ls st bx h n cn sn L p e R s m args below meth c Q as ws H locs la stv) {nx : Nat} {f : Nat → Nat} {F : Int32 → Int32} (hx : x_ui rec nx y d ls st bx h n cn sn f = some L) (hF : ∀ a, nI (f a) = F (nI a))
    (row : ∀ (x : Int32) (rest : List Value), W p l e R s m args below meth c H locs cn sn Q (F0 m nx la (.int (F x) :: rest)) → W p l e R s m args below meth c H locs cn sn Q (F0 m pc la (.int x :: rest))) : W p l e R s m args below meth c H locs cn sn Q (F0 m pc la stv) := by
  obtain ⟨a, r, rfl, k2, g⟩ := x_ui_ok hx
  have hbx := E.2.2.2.2.1.1
  obtain ⟨hl, hst⟩ := E.2.2.2.2.2.1
  obtain ⟨va, m2, rfl, hva, hr⟩ := xstR_cons hst
  obtain ⟨x, rfl⟩ := xden.int sv ex hva k2
  refine row x m2 ?_
  rcases g with ⟨x', q1, q3⟩ | g
  · have e1 : x = nI x' := Value.int.inj (xci_ok sv ex hbx hva q1)
    subst e1
    exact xk0 E q3 ⟨hl, by show Value.int _ = Value.int _; rw [hF], hr⟩
  · exact xk0 E g ⟨hl, ⟨_, rfl⟩, hr⟩
theorem xl2i_go (E : xStp l D cl A sv ex el eb nest txt ovr mi bys nm rtt gw rec y d ls st bx h n cn sn L p e R s m args below meth c Q as ws H locs la stv) {nx : Nat} (hx : x_l2i rec nx y d ls st bx h n cn sn = some L)
    (row : ∀ (x : Int64) (rest : List Value), W p l e R s m args below meth c H locs cn sn Q (F0 m nx la (.int x.toInt32 :: rest)) → W p l e R s m args below meth c H locs cn sn Q (F0 m pc la (.long x :: rest))) : W p l e R s m args below meth c H locs cn sn Q (F0 m pc la stv) := by
  obtain ⟨a, r, rfl, k2, g⟩ := x_l2i_ok hx
  have hbx := E.2.2.2.2.1.1
  obtain ⟨hl, hst⟩ := E.2.2.2.2.2.1
  obtain ⟨va, m2, rfl, hva, hr⟩ := xstR_cons hst
  obtain ⟨x, rfl⟩ := xden.long sv ex hva k2
  refine row x m2 ?_
  rcases g with ⟨x', q1, q3⟩ | g
  · have e1 : x = lN x' := Value.long.inj (xcl_ok sv ex hbx hva q1)
    subst e1
    exact xk0 E q3 ⟨hl, by show Value.int _ = Value.int _; rw [lN_l2i, x32], hr⟩
  · exact xk0 E g ⟨hl, ⟨_, rfl⟩, hr⟩
theorem xi2l_go (E : xStp l D cl A sv ex el eb nest txt ovr mi bys nm rtt gw rec y d ls st bx h n cn sn L p e R s m args below meth c Q as ws H locs la stv) {nx : Nat} (hx : x_i2l rec nx y d ls st bx h n cn sn = some L)
    (row : ∀ (x : Int32) (rest : List Value), W p l e R s m args below meth c H locs cn sn Q (F0 m nx la (.long x.toInt64 :: rest)) → W p l e R s m args below meth c H locs cn sn Q (F0 m pc la (.int x :: rest))) : W p l e R s m args below meth c H locs cn sn Q (F0 m pc la stv) := by
  obtain ⟨a, r, w, rfl, g, hw⟩ := x_i2l_ok (sv := sv) (ex := ex) hx
  obtain ⟨hl, hst⟩ := E.2.2.2.2.2.1
  obtain ⟨va, m2, rfl, hva, hr⟩ := xstR_cons hst
  obtain ⟨x, rfl, hx2⟩ := hw as va hva
  exact row x m2 (xk0 E g ⟨hl, hx2, hr⟩)
/-- loads -/
theorem xld_go (E : xStp l D cl A sv ex el eb nest txt ovr mi bys nm rtt gw rec y d ls st bx h n cn sn L p e R s m args below meth c Q as ws H locs la stv) {nx r1 k1 k2 : Nat} (hx : x_ld rec nx r1 y d ls st bx h n cn sn k1 k2 = some L)
    (row : ∀ (w : xv) (v : Value), la[r1]? = some (.val v) → xden sv ex as w v → (xkd w.1 = k1 ∨ xkd w.1 = k2) → W p l e R s m args below meth c H locs cn sn Q (F0 m nx la (v :: stv)) → W p l e R s m args below meth c H locs cn sn Q (F0 m pc la stv)) : W p l e R s m args below meth c H locs cn sn Q (F0 m pc la stv) := by
  obtain ⟨w, g1, g2, g3⟩ := x_ld_ok hx
  obtain ⟨⟨lv, hl, hls⟩, hst⟩ := E.2.2.2.2.2.1
  obtain ⟨k, v, g4, g5⟩ := xlk_ok sv ex hls g1
  exact row w v (lv_at hl k g4) g5 g2 (xk0 E g3 ⟨⟨lv, hl, hls⟩, g5, hst⟩)
end Go
end
section
/-! The step keeps its promise: constants, locals, stack, arithmetic; branches -/
section Inv2
variable {rec : xF} {nx y d pc : Nat} {ls : List (Nat × xv)} {st : List xv} {bx : xbox} {h : xheap} {n c s : Nat} {L : List xleaf}
theorem x_lcmp_ok (hx : x_lcmp rec nx y d pc ls st bx h n c s = some L) : ∃ b a r, st = b :: a :: r ∧ xkd b.1 = 1 ∧ xkd a.1 = 1 ∧
    ((xdec .lt (xrg bx a) (xrg bx b) = some true ∧ rec y d nx ls ((0, 4294967295) :: r) bx h n c s = some L) ∨
     (xdec .lt (xrg bx a) (xrg bx b) = some false ∧ xdec .gt (xrg bx a) (xrg bx b) = some true ∧ rec y d nx ls ((0, 1) :: r) bx h n c s = some L) ∨
     (xdec .lt (xrg bx a) (xrg bx b) = some false ∧ xdec .gt (xrg bx a) (xrg bx b) = some false ∧ rec y d nx ls ((0, 0) :: r) bx h n c s = some L) ∨
     (∃ i q, xspl (fun bx' => rec y d pc ls st bx' h n c s) bx i q = some L) ∨ rec y d nx ls ((7, 0) :: r) bx h n c s = some L) := by
  unfold x_lcmp at hx
  match st, hx with
  | [], hx => cases hx
  | [_], hx => cases hx
  | b :: a :: r, hx =>
    obtain ⟨h1, h2⟩ := xcnd hx
    obtain ⟨g1, g2⟩ := xand h1
    refine ⟨b, a, r, rfl, xeqb g1, xeqb g2, ?_⟩
    cases ha : xdec .lt (xrg bx a) (xrg bx b) with
    | none =>
      rw [ha] at h2
      dsimp only at h2
      cases hp : xpt bx a b with
      | some q => rw [hp] at h2; exact Or.inr (Or.inr (Or.inr (Or.inl ⟨_, _, h2⟩)))
      | none => rw [hp] at h2; exact Or.inr (Or.inr (Or.inr (Or.inr h2)))
    | some t =>
      rw [ha] at h2
      cases t with
      | true => exact Or.inl ⟨rfl, h2⟩
      | false =>
        dsimp only at h2
        cases hb : xdec .gt (xrg bx a) (xrg bx b) with
        | none =>
          rw [hb] at h2
          dsimp only at h2
          cases hp : xpt bx a b with
          | some q => rw [hp] at h2; exact Or.inr (Or.inr (Or.inr (Or.inl ⟨_, _, h2⟩)))
          | none => rw [hp] at h2; exact Or.inr (Or.inr (Or.inr (Or.inr h2)))
        | some t2 =>
          rw [hb] at h2
          cases t2 with
          | true => exact Or.inr (Or.inl ⟨rfl, rfl, h2⟩)
          | false => exact Or.inr (Or.inr (Or.inl ⟨rfl, rfl, h2⟩))
theorem x_tab_ok {dflt lo hi : Int} {offs : Array Int} (hx : x_tab rec y d pc ls st bx h n c s dflt lo hi offs = some L) : ∃ a r, st = a :: r ∧
    ((∃ x t, xci bx a = some x ∧ xts dflt lo hi offs pc (xz x) = some t ∧ rec y d t ls r bx h n c s = some L) ∨
     (a.1 = 1 ∧ ((xbg bx a.2).2 < (lo + 9223372036854775808).toNat ∨ (hi + 9223372036854775808).toNat < (xbg bx a.2).1) ∧ 0 ≤ (pc : Int) + dflt ∧ rec y d ((pc : Int) + dflt).toNat ls r bx h n c s = some L) ∨
     (∃ i q, xspl (fun bx' => rec y d pc ls st bx' h n c s) bx i q = some L)) := by
  unfold x_tab at hx
  match st, hx with
  | [], hx => cases hx
  | a :: r, hx =>
    dsimp only at hx
    refine ⟨a, r, rfl, ?_⟩
    cases hc : xci bx a with
    | some x =>
      rw [hc] at hx
      dsimp only at hx
      cases ht : xts dflt lo hi offs pc (xz x) with
      | none => rw [ht] at hx; cases hx
      | some t => rw [ht] at hx; exact Or.inl ⟨x, t, rfl, ht, hx⟩
    | none =>
      rw [hc] at hx
      obtain ⟨g1, g2⟩ := xcnd hx
      cases hb : (Nat.blt (xbg bx a.2).2 (lo + 9223372036854775808).toNat || Nat.blt (hi + 9223372036854775808).toNat (xbg bx a.2).1) with
      | true =>
        rw [hb] at g2
        simp only [cond_true] at g2
        split at g2
        · rename_i hz
          exact Or.inr (Or.inl ⟨xeqb g1, (xor2 hb).imp xltb xltb, hz, g2⟩)
        · cases g2
      | false =>
        rw [hb] at g2
        exact Or.inr (Or.inr ⟨_, _, g2⟩)
theorem x_lkp_ok {dflt : Int} {ps : Array (Int × Int)} (hx : x_lkp rec y d pc ls st bx h n c s dflt ps = some L) : ∃ a r x, st = a :: r ∧ xci bx a = some x ∧ 0 ≤ (pc : Int) + Op.lookupswitch.offset ps.toList dflt (xz x) ∧ rec y d ((pc : Int) + Op.lookupswitch.offset ps.toList dflt (xz x)).toNat ls r bx h n c s = some L := by
  unfold x_lkp at hx
  match st, hx with
  | [], hx => cases hx
  | a :: r, hx =>
    dsimp only at hx
    cases hc : xci bx a with
    | none => rw [hc] at hx; cases hx
    | some x =>
      rw [hc] at hx
      dsimp only at hx
      split at hx
      · rename_i hz
        exact ⟨a, r, x, rfl, hc, hz, hx⟩
      · cases hx
end Inv2
theorem xts_in {dflt lo hi : Int} {offs : Array Int} {pc t : Nat} {z : Int} (h : xts dflt lo hi offs pc z = some t) : ((z < lo ∨ hi < z) ∧ (pc : Int) + dflt = (t : Int)) ∨ (¬ z < lo ∧ ¬ hi < z ∧ ∃ o, offs[(z - lo).toNat]? = some o ∧ (pc : Int) + o = (t : Int)) := by
  unfold xts at h
  split at h
  · rename_i hz
    split at h
    · cases h; exact Or.inl ⟨hz, by omega⟩
    · cases h
  · rename_i hz
    split at h
    · cases h
    · rename_i o ho
      split at h
      · cases h; exact Or.inr ⟨fun q => hz (Or.inl q), fun q => hz (Or.inr q), o, ho, by omega⟩
      · cases h
section Go2
variable {l : Launch} {D : va_G} {cl : List vw_C} {A : Nat → Prop} {sv : Nat → Int32} {ex : Nat → Nat} {el : Nat → Nat} {eb : Nat → List Nat} {nest : List (String × Nat × MethodName × String)} {txt : Nat → String × Nat × String} {ovr : List String}
variable {mi : xmi} {df : xdf} {bys : Nat → ByteArray} {nm : Nat → MethodName} {rtt : Nat → Option FieldType} {gw : List Cond}
variable {rec : xF} {y d pc : Nat} {ls : List (Nat × xv)} {st : List xv} {bx : xbox} {h : xheap} {n cn sn : Nat} {L : List xleaf}
variable {p : Program} {e : Env} {R : Room} {s : State} {m : MethodId} {args : Array Value} {below : List Frame} {meth : Method} {c : Code} {Q : State → Prop} {as : List Nat} {ws : va_W} {H : Heap} {locs : List Loc} {la : Array Slot} {stv : List Value}
/-- the instructions of a frame alone -/
def xg1 : Instr → Bool
  | .iconst _ => true
  | .bipush _ => true
  | .sipush _ => true
  | .lconst _ => true
  | .ldc _ => true
  | .ldc_w _ => true
  | .ldc2_w _ => true
  | .aconst_null => true
  | .iload _ => true
  | .lload _ => true
  | .aload _ => true
  | .iload_n _ => true
  | .lload_n _ => true
  | .aload_n _ => true
  | .istore _ => true
  | .lstore _ => true
  | .astore _ => true
  | .istore_n _ => true
  | .lstore_n _ => true
  | .astore_n _ => true
  | .iinc _ _ => true
  | .dup => true
  | .pop => true
  | .dup2 => true
  | .pop2 => true
  | _ => false
set_option maxHeartbeats 4000000 in
theorem xf1 (E : xStp l D cl A sv ex el eb nest txt ovr mi bys nm rtt gw rec y d ls st bx h n cn sn L p e R s m args below meth c Q as ws H locs la stv) {ins : Instr} {len tg r1 r2 : Nat} (hg : xg1 ins = true) (hdec : decode (bys y) pc = .ok (ins, len)) (hI : xI cl nest txt ovr mi df bys nm rtt gw y pc ins len tg r1 r2)
    (hx : xex mi df el eb rec ins (pc + len) tg r1 r2 y d pc ls st bx h n cn sn = some L) : W p l e R s m args below meth c H locs cn sn Q (F0 m pc la stv) := by
  obtain ⟨hrec, ⟨hex, hb, hml, hown, hts, hK, hEX, hA, hnm, hRf, hRl, hRc, hRs⟩, hc, hs, ⟨hbx, hh, hP, hD, hS⟩, ⟨⟨lv, hl, hls⟩, hst⟩, hret⟩ := id E
  cases ins with
  | iconst k => obtain ⟨rfl, hv⟩ := hI; exact lv_iconst hex hb hdec hv (xk0 E hx ⟨⟨lv, hl, hls⟩, rfl, hst⟩)
  | bipush k => obtain ⟨rfl, hv⟩ := hI; exact lv_bipush hex hb hdec hv (xk0 E hx ⟨⟨lv, hl, hls⟩, rfl, hst⟩)
  | sipush k => obtain ⟨rfl, hv⟩ := hI; exact lv_sipush hex hb hdec hv (xk0 E hx ⟨⟨lv, hl, hls⟩, rfl, hst⟩)
  | lconst k => obtain ⟨rfl, hv⟩ := hI; exact lv_lconst hex hb hdec hv (xk0 E hx ⟨⟨lv, hl, hls⟩, rfl, hst⟩)
  | ldc i =>
    obtain ⟨rfl, hv1, hv2, hv3⟩ := hI
    have hx : cond (Nat.beq r2 0) (rec y d (pc + 2) ls ((0, r1) :: st) bx h n cn sn) (cond (Nat.beq r2 1) (rec y d (pc + 2) ls ((6, 1) :: st) bx h n cn sn) (cond (Nat.beq r2 2) (rec y d (pc + 2) ls ((6, 3) :: st) bx h n cn sn) none)) = some L := hx
    cases hq : Nat.beq r2 0 with
    | true => rw [hq] at hx; exact lv_ldc hex hb hown (hts _ (hv1 (xeqb hq))) hdec (xk0 E hx ⟨⟨lv, hl, hls⟩, rfl, hst⟩)
    | false =>
      rw [hq] at hx
      simp only [cond_false] at hx
      cases hq1 : Nat.beq r2 1 with
      | true =>
        rw [hq1] at hx
        obtain ⟨e1, e2⟩ := hv2 (xeqb hq1)
        refine va_ldcS (own := (nm y).cls) (tx := (txt 1).2.2) (q := ex 1) hex hb hown ?_ hdec (xk0 E hx ⟨⟨lv, hl, hls⟩, rfl, hst⟩)
        rw [e1, e2]
        exact hEX.2.2.2.2.1 1 (Or.inl rfl)
      | false =>
        rw [hq1] at hx
        simp only [cond_false] at hx
        obtain ⟨g1, g2⟩ := xcnd hx
        obtain ⟨e1, e2⟩ := hv3 (xeqb g1)
        refine va_ldcS (own := (nm y).cls) (tx := (txt 3).2.2) (q := ex 3) hex hb hown ?_ hdec (xk0 E g2 ⟨⟨lv, hl, hls⟩, rfl, hst⟩)
        rw [e1, e2]
        exact hEX.2.2.2.2.1 3 (Or.inr rfl)
  | ldc_w i => obtain ⟨rfl, hv⟩ := hI; exact lv_ldcw hex hb hown (hts _ hv) hdec (xk0 E hx ⟨⟨lv, hl, hls⟩, rfl, hst⟩)
  | ldc2_w i => obtain ⟨rfl, hv⟩ := hI; exact lv_ldc2 hex hb hown (hts _ hv) hdec (xk0 E hx ⟨⟨lv, hl, hls⟩, rfl, hst⟩)
  | aconst_null => obtain rfl : len = 1 := hI; exact lv_null hex hb hdec (xk0 E hx ⟨⟨lv, hl, hls⟩, rfl, hst⟩)
  | iload i =>
    obtain ⟨rfl, rfl⟩ := hI
    exact xld_go E hx (fun w v q1 q2 q3 k => by obtain ⟨x, rfl⟩ := xden.int sv ex q2 (q3.elim id id); exact lv_iload hex hb hdec q1 k)
  | lload i =>
    obtain ⟨rfl, rfl⟩ := hI
    exact xld_go E hx (fun w v q1 q2 q3 k => by obtain ⟨x, rfl⟩ := xden.long sv ex q2 (q3.elim id id); exact lv_lload hex hb hdec q1 k)
  | aload i =>
    obtain ⟨rfl, rfl⟩ := hI
    refine xld_go E hx (fun w v q1 q2 q3 k => ?_)
    rcases q3 with q3 | q3
    · obtain ⟨x, rfl⟩ := xden.ref sv ex q2 q3; exact lv_aload hex hb hdec q1 k
    · have := xden.nul sv ex q2 q3; subst this; exact lv_aloadN hex hb hdec q1 k
  | iload_n i =>
    obtain ⟨rfl, hi⟩ := hI
    exact xld_go E hx (fun w v q1 q2 q3 k => by obtain ⟨x, rfl⟩ := xden.int sv ex q2 (q3.elim id id); exact lv_iload_n hex hb hdec hi q1 k)
  | lload_n i =>
    obtain ⟨rfl, hi⟩ := hI
    exact xld_go E hx (fun w v q1 q2 q3 k => by obtain ⟨x, rfl⟩ := xden.long sv ex q2 (q3.elim id id); exact lv_lload_n hex hb hdec hi q1 k)
  | aload_n i =>
    obtain ⟨rfl, hi⟩ := hI
    refine xld_go E hx (fun w v q1 q2 q3 k => ?_)
    rcases q3 with q3 | q3
    · obtain ⟨x, rfl⟩ := xden.ref sv ex q2 q3; exact lv_aload_n hex hb hdec hi q1 k
    · have := xden.nul sv ex q2 q3; subst this; exact lv_aload_nN hex hb hdec hi q1 k
  | istore i =>
    obtain ⟨rfl, rfl, hn⟩ := hI
    obtain ⟨w, r, rfl, g2, g3⟩ := x_st_ok hx
    obtain ⟨v, m1, rfl, hv, hr⟩ := xstR_cons hst
    obtain ⟨x, rfl⟩ := xden.int sv ex hv (g2.elim id id)
    exact lv_istore hex hb hdec hl hn rfl (fun la' hl' => xk0 E g3 ⟨⟨_, hl', rfl, hv, xlsR.filter sv ex (xk1_ok sv ex _) hls⟩, hr⟩)
  | lstore i =>
    obtain ⟨rfl, rfl, hn⟩ := hI
    obtain ⟨w, r, rfl, g2, g3⟩ := x_st_ok hx
    obtain ⟨v, m1, rfl, hv, hr⟩ := xstR_cons hst
    obtain ⟨x, rfl⟩ := xden.long sv ex hv (g2.elim id id)
    exact lv_lstore hex hb hdec hl hn rfl (fun la' hl' => xk0 E g3 ⟨⟨_, hl', rfl, hv, xlsR.filter sv ex (xk2_ok sv ex _) hls⟩, hr⟩)
  | astore i =>
    obtain ⟨rfl, rfl, hn⟩ := hI
    obtain ⟨w, r, rfl, g2, g3⟩ := x_st_ok hx
    obtain ⟨v, m1, rfl, hv, hr⟩ := xstR_cons hst
    obtain ⟨x, rfl⟩ := xden.ref sv ex hv (g2.elim id id)
    exact lv_astore hex hb hdec hl hn rfl (fun la' hl' => xk0 E g3 ⟨⟨_, hl', rfl, hv, xlsR.filter sv ex (xk1_ok sv ex _) hls⟩, hr⟩)
  | istore_n i =>
    obtain ⟨rfl, hi, hn⟩ := hI
    obtain ⟨w, r, rfl, g2, g3⟩ := x_st_ok hx
    obtain ⟨v, m1, rfl, hv, hr⟩ := xstR_cons hst
    obtain ⟨x, rfl⟩ := xden.int sv ex hv (g2.elim id id)
    exact lv_istore_n hex hb hdec hi hl hn rfl (fun la' hl' => xk0 E g3 ⟨⟨_, hl', rfl, hv, xlsR.filter sv ex (xk1_ok sv ex _) hls⟩, hr⟩)
  | lstore_n i =>
    obtain ⟨rfl, hi, hn⟩ := hI
    obtain ⟨w, r, rfl, g2, g3⟩ := x_st_ok hx
    obtain ⟨v, m1, rfl, hv, hr⟩ := xstR_cons hst
    obtain ⟨x, rfl⟩ := xden.long sv ex hv (g2.elim id id)
    exact lv_lstore_n hex hb hdec hi hl hn rfl (fun la' hl' => xk0 E g3 ⟨⟨_, hl', rfl, hv, xlsR.filter sv ex (xk2_ok sv ex _) hls⟩, hr⟩)
  | astore_n i =>
    obtain ⟨rfl, hi, hn⟩ := hI
    obtain ⟨w, r, rfl, g2, g3⟩ := x_st_ok hx
    obtain ⟨v, m1, rfl, hv, hr⟩ := xstR_cons hst
    obtain ⟨x, rfl⟩ := xden.ref sv ex hv (g2.elim id id)
    exact lv_astore_n hex hb hdec hi hl hn rfl (fun la' hl' => xk0 E g3 ⟨⟨_, hl', rfl, hv, xlsR.filter sv ex (xk1_ok sv ex _) hls⟩, hr⟩)
  | iinc i k =>
    obtain ⟨rfl, rfl, hn, hk⟩ := hI
    obtain ⟨w, x, g1, g2, g3⟩ := x_inc_ok hx
    obtain ⟨j, v, g4, g5⟩ := xlk_ok sv ex hls g1
    have e1 := xci_ok sv ex hbx g5 g2
    subst e1
    exact lv_iinc hex hb hdec hl g4 (v := nI ((x + r2) % 4294967296)) (by rw [hk, x32, nI_add]) hn rfl (fun la' hl' => xk0 E g3 ⟨⟨_, hl', rfl, rfl, xlsR.filter sv ex (xk1_ok sv ex _) hls⟩, hst⟩)
  | dup =>
    obtain rfl : len = 1 := hI
    obtain ⟨a, r, rfl, g1, g2⟩ := x_dup_ok hx
    obtain ⟨v, m1, rfl, hv, hr⟩ := xstR_cons hst
    exact lv_dup hex hb hdec (by rw [xden.cat sv ex hv, g1]; rfl) (xk0 E g2 ⟨⟨lv, hl, hls⟩, hv, hv, hr⟩)
  | pop =>
    obtain rfl : len = 1 := hI
    obtain ⟨a, r, rfl, g1, g2⟩ := x_pop_ok hx
    obtain ⟨v, m1, rfl, hv, hr⟩ := xstR_cons hst
    exact lv_pop hex hb hdec (by rw [xden.cat sv ex hv, g1]; rfl) (xk0 E g2 ⟨⟨lv, hl, hls⟩, hr⟩)
  | pop2 =>
    obtain rfl : len = 1 := hI
    obtain ⟨a, r, rfl, g1, g2⟩ := x_pop2_ok hx
    obtain ⟨v, m1, rfl, hv, hr⟩ := xstR_cons hst
    exact lv_pop2_2 hex hb hdec (by rw [xden.cat sv ex hv, g1]; rfl) (xk0 E g2 ⟨⟨lv, hl, hls⟩, hr⟩)
  | dup2 =>
    obtain rfl : len = 1 := hI
    rcases x_dup2_ok hx with ⟨a, r, rfl, g1, g2⟩ | ⟨a, b, r, rfl, g1, g3, g2⟩
    · obtain ⟨v, m1, rfl, hv, hr⟩ := xstR_cons hst
      exact lv_dup2_2 hex hb hdec (by rw [xden.cat sv ex hv, g1]; rfl) (xk0 E g2 ⟨⟨lv, hl, hls⟩, hv, hv, hr⟩)
    · obtain ⟨v, m1, rfl, hv, hr⟩ := xstR_cons hst
      obtain ⟨v2, m2, rfl, hv2, hr⟩ := xstR_cons hr
      exact lv_dup2_11 hex hb hdec (by rw [xden.cat sv ex hv, g1]; rfl) (by rw [xden.cat sv ex hv2, g3]; rfl) (xk0 E g2 ⟨⟨lv, hl, hls⟩, hv, hv2, hv, hv2, hr⟩)
  | _ => cases hg
def xg2 : Instr → Bool
  | .iadd => true
  | .isub => true
  | .imul => true
  | .iand => true
  | .ior => true
  | .ishl => true
  | .ishr => true
  | .idiv => true
  | .irem => true
  | .ladd => true
  | .lsub => true
  | .lmul => true
  | .land => true
  | .lor => true
  | .ldiv => true
  | .lrem => true
  | .lshl => true
  | .lshr => true
  | .i2l => true
  | .l2i => true
  | .i2b => true
  | .i2s => true
  | .ineg => true
  | .iushr => true
  | .i2c => true
  | _ => false
set_option maxHeartbeats 4000000 in
theorem xf2 (E : xStp l D cl A sv ex el eb nest txt ovr mi bys nm rtt gw rec y d ls st bx h n cn sn L p e R s m args below meth c Q as ws H locs la stv) {ins : Instr} {len tg r1 r2 : Nat} (hg : xg2 ins = true) (hdec : decode (bys y) pc = .ok (ins, len)) (hI : xI cl nest txt ovr mi df bys nm rtt gw y pc ins len tg r1 r2)
    (hx : xex mi df el eb rec ins (pc + len) tg r1 r2 y d pc ls st bx h n cn sn = some L) : W p l e R s m args below meth c H locs cn sn Q (F0 m pc la stv) := by
  have hex := E.2.1.1
  have hb := E.2.1.2.1
  cases ins with
  | iadd => obtain rfl : len = 1 := hI; exact xbi_go E hx (F := fun x z => x + z) (fun a b => by rw [x32, nI_add]) (fun x z rest k => lv_iadd hex hb hdec k)
  | isub => obtain rfl : len = 1 := hI; exact xbi_go E hx (F := fun x z => x - z) (fun a b => nI_sub a b) (fun x z rest k => lv_isub hex hb hdec k)
  | imul => obtain rfl : len = 1 := hI; exact xbi_go E hx (F := fun x z => x * z) (fun a b => by rw [x32, pk_mul]) (fun x z rest k => lv_imul hex hb hdec k)
  | iand => obtain rfl : len = 1 := hI; exact xbi_go E hx (F := fun x z => x &&& z) (fun a b => nI_xnu _) (fun x z rest k => lv_iand hex hb hdec k)
  | ior => obtain rfl : len = 1 := hI; exact xbi_go E hx (F := fun x z => x ||| z) (fun a b => nI_xnu _) (fun x z rest k => lv_ior hex hb hdec k)
  | ishl => obtain rfl : len = 1 := hI; exact xbi_go E hx (F := fun x z => x <<< (z &&& 31)) (fun a b => nI_xnu _) (fun x z rest k => lv_ishl hex hb hdec k)
  | ishr => obtain rfl : len = 1 := hI; exact xbi_go E hx (F := fun x z => x >>> (z &&& 31)) (fun a b => nI_xnu _) (fun x z rest k => lv_ishr hex hb hdec k)
  | idiv => obtain rfl : len = 1 := hI; exact xdv_go E hx (F := fun x z => x / z) (fun a b => nI_xnu _) (fun x z rest hz k => lv_idiv hex hb hdec hz k)
  | irem => obtain rfl : len = 1 := hI; exact xdv_go E hx (F := fun x z => x - x / z * z) (fun a b => nI_xnu _) (fun x z rest hz k => lv_irem hex hb hdec hz k)
  | ladd => obtain rfl : len = 1 := hI; exact xbl_go E hx (F := fun x z => x + z) (fun a b => lN_xnl _) (fun x z rest k => lv_ladd hex hb hdec k)
  | lsub => obtain rfl : len = 1 := hI; exact xbl_go E hx (F := fun x z => x - z) (fun a b => lN_xnl _) (fun x z rest k => lv_lsub hex hb hdec k)
  | lmul => obtain rfl : len = 1 := hI; exact xbl_go E hx (F := fun x z => x * z) (fun a b => lN_xnl _) (fun x z rest k => lv_lmul hex hb hdec k)
  | land => obtain rfl : len = 1 := hI; exact xbl_go E hx (F := fun x z => x &&& z) (fun a b => lN_xnl _) (fun x z rest k => lv_land hex hb hdec k)
  | lor => obtain rfl : len = 1 := hI; exact xbl_go E hx (F := fun x z => x ||| z) (fun a b => lN_xnl _) (fun x z rest k => lv_lor hex hb hdec k)
  | ldiv => obtain rfl : len = 1 := hI; exact xdl_go E hx (F := fun x z => x / z) (fun a b => lN_xnl _) (fun x z rest hz k => lv_ldiv hex hb hdec hz k)
  | lrem => obtain rfl : len = 1 := hI; exact xdl_go E hx (F := fun x z => x - x / z * z) (fun a b => lN_xnl _) (fun x z rest hz k => lv_lrem hex hb hdec hz k)
  | lshl => obtain rfl : len = 1 := hI; exact xsl_go E hx (F := fun x z => x <<< (z.toInt64 &&& 63)) (fun a b => lN_xnl _) (fun x z rest k => lv_lshl hex hb hdec rfl k)
  | lshr => obtain rfl : len = 1 := hI; exact xsl_go E hx (F := fun x z => x >>> (z.toInt64 &&& 63)) (fun a b => lN_xnl _) (fun x z rest k => lv_lshr hex hb hdec rfl k)
  | i2l => obtain rfl : len = 1 := hI; exact xi2l_go E hx (fun x rest k => lv_i2l hex hb hdec rfl k)
  | l2i => obtain rfl : len = 1 := hI; exact xl2i_go E hx (fun x rest k => lv_l2i hex hb hdec rfl k)
  | i2b => obtain rfl : len = 1 := hI; exact xui_go E hx (F := fun x => x.toInt8.toInt32) (fun a => nI_xnu _) (fun x rest k => lv_i2b hex hb hdec rfl k)
  | ineg => obtain rfl : len = 1 := hI; exact xui_go E hx (F := fun x => -x) (fun a => nI_xnu _) (fun x rest k => lv_ineg hex hb hdec k)
  | iushr => obtain rfl : len = 1 := hI; exact xbi_go E hx (F := fun x z => (x.toUInt32 >>> (z.toUInt32 &&& Int32.toUInt32 31)).toInt32) (fun a b => nI_xnu _) (fun x z rest k => lv_iushr hex hb hdec rfl k)
  | i2s => obtain rfl : len = 1 := hI; exact xui_go E hx (F := fun x => x.toInt16.toInt32) (fun a => nI_xnu _) (fun x rest k => lv_i2s hex hb hdec rfl k)
  | i2c => obtain rfl : len = 1 := hI; exact xui_go E hx (F := fun x => (x.toUInt32 % 65536).toInt32) (fun a => (nI_c65 a).symm) (fun x rest k => lv_i2c hex hb hdec rfl k)
  | _ => cases hg
def xg3 : Instr → Bool
  | .goto _ => true
  | .if_icmp _ _ => true
  | .ifCond _ _ => true
  | .ifnull _ => true
  | .ifnonnull _ => true
  | .lcmp => true
  | .tableswitch _ _ _ _ => true
  | .lookupswitch _ _ => true
  | _ => false
theorem xmapp1 {x : xleaf} {a b : List xleaf} (h : x ∈ a) : x ∈ a ++ b := List.mem_append_left _ h
theorem xmapp2 {x : xleaf} {a b : List xleaf} (h : x ∈ b) : x ∈ a ++ b := List.mem_append_right _ h
set_option maxHeartbeats 4000000 in
theorem xf3 (E : xStp l D cl A sv ex el eb nest txt ovr mi bys nm rtt gw rec y d ls st bx h n cn sn L p e R s m args below meth c Q as ws H locs la stv) {ins : Instr} {len tg r1 r2 : Nat} (hg : xg3 ins = true) (hdec : decode (bys y) pc = .ok (ins, len)) (hI : xI cl nest txt ovr mi df bys nm rtt gw y pc ins len tg r1 r2)
    (hx : xex mi df el eb rec ins (pc + len) tg r1 r2 y d pc ls st bx h n cn sn = some L) : W p l e R s m args below meth c H locs cn sn Q (F0 m pc la stv) := by
  obtain ⟨hrec, ⟨hex, hb, hml, hown, hts, hK, hEX, hA, hnm, hRf, hRl, hRc, hRs⟩, hc, hs, ⟨hbx, hh, hP, hD, hS⟩, ⟨hl, hst⟩, hret⟩ := id E
  cases ins with
  | goto off => obtain ⟨rfl, ht⟩ := hI; exact lv_goto hex hb hdec ht (xk0 E hx ⟨hl, hst⟩)
  | if_icmp o off =>
    obtain ⟨rfl, ht⟩ := hI
    obtain ⟨b, a, r, rfl, k1, k2, g⟩ := x_icmp_ok hx
    obtain ⟨vb, m1, rfl, hvb, hst'⟩ := xstR_cons hst
    obtain ⟨va, m2, rfl, hva, hr⟩ := xstR_cons hst'
    obtain ⟨z, rfl⟩ := xden.int sv ex hvb k1
    obtain ⟨x, rfl⟩ := xden.int sv ex hva k2
    rcases xbr_ok g with ⟨t, q1, q2⟩ | ⟨i, q, q1⟩ | ⟨L1, L2, q1, q2, q3⟩
    · have hif := xdec_ok q1 (xrg_int sv ex hbx hva).1 (xrg_int sv ex hbx hva).2 (xrg_int sv ex hbx hvb).1 (xrg_int sv ex hbx hvb).2
      refine xicmp hex hb hdec ht (fun hr' => ?_) (fun hr' => ?_)
      · have e : t = true := hif.mpr hr'
        subst e; exact xk0 E q2 ⟨hl, hr⟩
      · cases t with
        | true => exact absurd (hif.mp rfl) hr'
        | false => exact xk0 E q2 ⟨hl, hr⟩
    · exact xksp E q1
    · subst q3
      exact xicmp hex hb hdec ht (fun _ => xkk E q1 (fun _ => xmapp1) (xle.rf _) hc hs ⟨hbx, hh, hP, hD, hS⟩ ⟨hl, hr⟩) (fun _ => xkk E q2 (fun _ => xmapp2) (xle.rf _) hc hs ⟨hbx, hh, hP, hD, hS⟩ ⟨hl, hr⟩)
  | ifCond o off =>
    obtain ⟨rfl, ht⟩ := hI
    obtain ⟨a, r, rfl, k2, g⟩ := x_if_ok hx
    obtain ⟨va, m2, rfl, hva, hr⟩ := xstR_cons hst
    obtain ⟨x, rfl⟩ := xden.int sv ex hva k2
    have h0 : xden sv ex as (0, 0) (.int (nI 0)) := rfl
    rcases xbr_ok g with ⟨t, q1, q2⟩ | ⟨i, q, q1⟩ | ⟨L1, L2, q1, q2, q3⟩
    · have hif := xdec_ok q1 (xrg_int sv ex hbx hva).1 (xrg_int sv ex hbx hva).2 (xrg_int sv ex hbx h0).1 (xrg_int sv ex hbx h0).2
      refine xifc hex hb hdec ht (fun hr' => ?_) (fun hr' => ?_)
      · have e : t = true := hif.mpr hr'
        subst e; exact xk0 E q2 ⟨hl, hr⟩
      · cases t with
        | true => exact absurd (hif.mp rfl) hr'
        | false => exact xk0 E q2 ⟨hl, hr⟩
    · exact xksp E q1
    · subst q3
      exact xifc hex hb hdec ht (fun _ => xkk E q1 (fun _ => xmapp1) (xle.rf _) hc hs ⟨hbx, hh, hP, hD, hS⟩ ⟨hl, hr⟩) (fun _ => xkk E q2 (fun _ => xmapp2) (xle.rf _) hc hs ⟨hbx, hh, hP, hD, hS⟩ ⟨hl, hr⟩)
  | ifnull off =>
    obtain ⟨rfl, ht⟩ := hI
    obtain ⟨a, r, rfl, g⟩ := x_nul_ok hx
    obtain ⟨va, m2, rfl, hva, hr⟩ := xstR_cons hst
    rcases g with ⟨k, g⟩ | ⟨k, g⟩
    · obtain ⟨x, rfl⟩ := xden.ref sv ex hva k
      exact lv_ifnull hex hb hdec (xk0 E g ⟨hl, hr⟩)
    · have := xden.nul sv ex hva k
      subst this
      exact lv_ifnullN hex hb hdec ht (xk0 E g ⟨hl, hr⟩)
  | ifnonnull off =>
    obtain ⟨rfl, ht⟩ := hI
    obtain ⟨a, r, rfl, g⟩ := x_nul_ok hx
    obtain ⟨va, m2, rfl, hva, hr⟩ := xstR_cons hst
    rcases g with ⟨k, g⟩ | ⟨k, g⟩
    · obtain ⟨x, rfl⟩ := xden.ref sv ex hva k
      exact lv_ifnonnull hex hb hdec ht (xk0 E g ⟨hl, hr⟩)
    · have := xden.nul sv ex hva k
      subst this
      exact lv_ifnonnullN hex hb hdec (xk0 E g ⟨hl, hr⟩)
  | lcmp =>
    obtain rfl : len = 1 := hI
    obtain ⟨b, a, r, rfl, k1, k2, g⟩ := x_lcmp_ok hx
    obtain ⟨vb, m1, rfl, hvb, hst'⟩ := xstR_cons hst
    obtain ⟨va, m2, rfl, hva, hr⟩ := xstR_cons hst'
    obtain ⟨z, rfl⟩ := xden.long sv ex hvb k1
    obtain ⟨x, rfl⟩ := xden.long sv ex hva k2
    have ra := xrg_long sv ex hbx hva
    have rb := xrg_long sv ex hbx hvb
    rcases g with ⟨q1, g⟩ | ⟨q1, q2, g⟩ | ⟨q1, q2, g⟩ | ⟨i, q, g⟩ | g
    · refine W.lcmp hex hb hdec (xk0 E g ⟨hl, ?_, hr⟩)
      have h1 : x < z := xoff_ltL.mp ((xdec_ok q1 ra.1 ra.2 rb.1 rb.2).mp rfl)
      have h2 := Int64.lt_iff_toInt_lt.mp h1
      show Value.int (lg_cmp x z) = Value.int (nI 4294967295)
      unfold lg_cmp
      rw [if_neg (fun q => by have := Int64.lt_iff_toInt_lt.mp (gt_iff_lt.mp q); omega), if_neg (fun q => by rw [q] at h2; omega)]
      rfl
    · refine W.lcmp hex hb hdec (xk0 E g ⟨hl, ?_, hr⟩)
      have h1 : z < x := xoff_ltL.mp ((xdec_ok q2 ra.1 ra.2 rb.1 rb.2).mp rfl)
      show Value.int (lg_cmp x z) = Value.int (nI 1)
      unfold lg_cmp
      rw [if_pos h1]
      rfl
    · refine W.lcmp hex hb hdec (xk0 E g ⟨hl, ?_, hr⟩)
      have h1 : ¬ x < z := fun q => by have := (xdec_ok q1 ra.1 ra.2 rb.1 rb.2).mpr (xoff_ltL.mpr q); cases this
      have h2 : ¬ z < x := fun q => by have := (xdec_ok q2 ra.1 ra.2 rb.1 rb.2).mpr (xoff_ltL.mpr q); cases this
      have h3 : x = z := by
        apply Int64.toInt_inj.mp
        have a1 : ¬ x.toInt < z.toInt := fun q => h1 (Int64.lt_iff_toInt_lt.mpr q)
        have a2 : ¬ z.toInt < x.toInt := fun q => h2 (Int64.lt_iff_toInt_lt.mpr q)
        omega
      show Value.int (lg_cmp x z) = Value.int (nI 0)
      unfold lg_cmp
      rw [if_neg h2, if_pos h3]
      rfl
    · exact xksp E g
    · exact W.lcmp hex hb hdec (xk0 E g ⟨hl, ⟨_, rfl⟩, hr⟩)
  | tableswitch dflt lo hi offs =>
    obtain ⟨hlo, hhi, hlh⟩ := hI
    obtain ⟨a, r, rfl, g⟩ := x_tab_ok hx
    obtain ⟨va, m2, rfl, hva, hr⟩ := xstR_cons hst
    rcases g with ⟨x, t, q1, q2, g⟩ | ⟨q1, q2, q3, g⟩ | ⟨i, q, g⟩
    · have e1 := xci_ok sv ex hbx hva q1
      subst e1
      rcases xts_in q2 with ⟨h1, h2⟩ | ⟨h1, h2, o, h3, h4⟩
      · exact lv_tableOut hex hb hdec h1 h2 (xk0 E g ⟨hl, hr⟩)
      · exact lv_tableIn hex hb hdec h1 h2 h3 h4 (xk0 E g ⟨hl, hr⟩)
    · obtain ⟨t, i⟩ := a
      have e1 : t = 1 := q1
      subst e1
      have e2 : va = .int (sv i) := hva
      subst e2
      have hri := hbx i
      have hoi := xoff_int (sv i)
      refine lv_tableOut hex hb hdec ?_ (tgt := ((pc : Int) + dflt).toNat) (by omega) (xk0 E g ⟨hl, hr⟩)
      dsimp only at q2 hri
      rcases q2 with q2 | q2
      · left; omega
      · right; omega
    · exact xksp E g
  | lookupswitch dflt ps =>
    have hI : (ps.toList.zip (ps.toList.drop 1)).all (fun (a, next) => a.1 < next.1) = true := hI
    obtain ⟨a, r, x, rfl, q1, q2, g⟩ := x_lkp_ok hx
    obtain ⟨va, m2, rfl, hva, hr⟩ := xstR_cons hst
    have e1 := xci_ok sv ex hbx hva q1
    subst e1
    exact lv_lookup hex hb hdec hI rfl (tgt := ((pc : Int) + Op.lookupswitch.offset ps.toList dflt (xz x)).toNat) (by show (pc : Int) + Op.lookupswitch.offset ps.toList dflt (xz x) = _; omega) (xk0 E g ⟨hl, hr⟩)
  | _ => cases hg
end Go2
end
section
/-! The step keeps its promise: cells -/
section Inv3
variable {mi : xmi} {df : xdf} {el : Nat → Nat} {eb : Nat → List Nat} {rec : xF} {nx tg r1 r2 y d pc : Nat} {ls : List (Nat × xv)} {st : List xv} {bx : xbox} {h : xheap} {n c s : Nat} {L : List xleaf}
theorem x_get_ok (hx : x_get rec nx r1 r2 y d ls st bx h n c s = some L) : ∃ w r, st = w :: r ∧
    ((w.1 = 4 ∧ r1 < 13 ∧ ∃ q v, xg h w.2 = some q ∧ q.1 = r1 ∧ xg q.2.2 r2 = some v ∧ rec y d nx ls (v :: r) bx h n c s = some L) ∨
     (w.1 = 6 ∧ (w.2 = 1 ∨ w.2 = 3) ∧ r1 = 98 ∧ rec y d nx ls ((cond (Nat.beq r2 0) (6, w.2 + 1) (0, 0)) :: r) bx h n c s = some L)) := by
  unfold x_get at hx
  match st, hx with
  | [], hx => cases hx
  | w :: r, hx =>
    refine ⟨w, r, rfl, ?_⟩
    dsimp only at hx
    cases hw : Nat.beq w.1 4 with
    | true =>
      rw [hw] at hx
      simp only [cond_true] at hx
      cases hq : xg h w.2 with
      | none => rw [hq] at hx; cases hx
      | some q =>
        rw [hq] at hx
        obtain ⟨g1, g2⟩ := xcnd hx
        obtain ⟨g3, g4⟩ := xand g1
        cases hv : xg q.2.2 r2 with
        | none => rw [hv] at g2; cases g2
        | some v => rw [hv] at g2; exact Or.inl ⟨xeqb hw, xltb g4, q, v, rfl, xeqb g3, hv, g2⟩
    | false =>
      rw [hw] at hx
      simp only [cond_false] at hx
      obtain ⟨g1, g2⟩ := xcnd hx
      obtain ⟨g3, g4⟩ := xand g1
      obtain ⟨g5, g6⟩ := xand g3
      exact Or.inr ⟨xeqb g5, (xor2 g6).imp xeqb xeqb, xeqb g4, g2⟩
theorem x_put_ok (hx : x_put rec nx tg r1 r2 y d ls st bx h n c s = some L) : ∃ v w r q w0, st = v :: w :: r ∧ w.1 = 4 ∧ xfit tg v = true ∧ xg h w.2 = some q ∧ q.1 = r1 ∧ r2 < q.2.1 ∧ xg q.2.2 r2 = some w0 ∧ rec y d nx ls r bx (xw h w.2 (q.1, q.2.1, xw q.2.2 r2 v)) n c s = some L := by
  unfold x_put at hx
  match st, hx with
  | [], hx => cases hx
  | [_], hx => cases hx
  | v :: w :: r, hx =>
    obtain ⟨g1, g2⟩ := xcnd hx
    obtain ⟨g3, g4⟩ := xand g1
    cases hq : xg h w.2 with
    | none => rw [hq] at g2; cases g2
    | some q =>
      rw [hq] at g2
      obtain ⟨g5, g6⟩ := xcnd g2
      obtain ⟨g7, g8⟩ := xand g5
      cases hv : xg q.2.2 r2 with
      | none => rw [hv] at g6; cases g6
      | some w0 =>
        rw [hv] at g6
        dsimp only at g6
        rw [xsK_eq, xsK_eq] at g6
        exact ⟨v, w, r, q, w0, rfl, xeqb g3, g4, hq, xeqb g7, xltb g8, hv, g6⟩
theorem x_arr_ok {dk : Nat} (hx : x_arr mi rec nx r1 y d ls st bx h n c s dk = some L) : ∃ w r k, st = w :: r ∧ xci bx w = some k ∧ k ≤ 1048576 ∧ x_cell mi rec nx y d ls bx h n c s r1 k (xmk (xd0 dk) 20 0 k) r = some L := by
  unfold x_arr at hx
  match st, hx with
  | [], hx => cases hx
  | w :: r, hx =>
    dsimp only at hx
    cases hc : xci bx w with
    | none => rw [hc] at hx; cases hx
    | some k =>
      rw [hc] at hx
      obtain ⟨g1, g2⟩ := xcnd hx
      exact ⟨w, r, k, rfl, hc, xleb g1, g2⟩
theorem x_new_ok (hx : x_new mi df rec nx r1 y d ls st bx h n c s = some L) : ∃ q, xg df r1 = some q ∧ x_cell mi rec nx y d ls bx h n c s r1 q.1 q.2 st = some L := by
  unfold x_new at hx
  cases hq : xg df r1 with
  | none => rw [hq] at hx; cases hx
  | some q => rw [hq] at hx; exact ⟨q, rfl, hx⟩
theorem x_len_ok (hx : x_len el rec nx y d ls st bx h n c s = some L) : ∃ w r, st = w :: r ∧
    ((w.1 = 4 ∧ ∃ q, xg h w.2 = some q ∧ 13 ≤ q.1 ∧ rec y d nx ls ((0, q.2.1) :: r) bx h n c s = some L) ∨
     (w.1 = 6 ∧ (w.2 = 0 ∨ w.2 = 2 ∨ w.2 = 4) ∧ rec y d nx ls ((0, el w.2) :: r) bx h n c s = some L)) := by
  unfold x_len at hx
  match st, hx with
  | [], hx => cases hx
  | w :: r, hx =>
    refine ⟨w, r, rfl, ?_⟩
    dsimp only at hx
    cases hw : Nat.beq w.1 4 with
    | true =>
      rw [hw] at hx
      simp only [cond_true] at hx
      cases hq : xg h w.2 with
      | none => rw [hq] at hx; cases hx
      | some q =>
        rw [hq] at hx
        obtain ⟨g1, g2⟩ := xcnd hx
        exact Or.inl ⟨xeqb hw, q, rfl, xleb g1, g2⟩
    | false =>
      rw [hw] at hx
      simp only [cond_false] at hx
      obtain ⟨g1, g2⟩ := xcnd hx
      obtain ⟨g3, g4⟩ := xand g1
      exact Or.inr ⟨xeqb g3, (xor2 g4).imp xeqb (fun z => (xor2 z).imp xeqb xeqb), g2⟩
theorem x_ald_ok {kd : Nat} (hx : x_ald el eb rec nx y d pc ls st bx h n c s kd = some L) : ∃ i w r, st = i :: w :: r ∧
    ((∃ x, xci bx i = some x ∧ x < 2147483648 ∧
      ((w.1 = 4 ∧ ∃ q v, xg h w.2 = some q ∧ (q.1 = kd ∨ (kd = 20 ∧ 20 ≤ q.1)) ∧ x < q.2.1 ∧ xg q.2.2 x = some v ∧ rec y d nx ls (v :: r) bx h n c s = some L) ∨
       (w.1 = 6 ∧ w.2 = 0 ∧ kd = 13 ∧ x < el 0 ∧ rec y d nx ls ((1, x) :: r) bx h n c s = some L) ∨
       (w.1 = 6 ∧ (w.2 = 2 ∨ w.2 = 4) ∧ kd = 15 ∧ x < el w.2 ∧ rec y d nx ls ((0, (eb w.2).getD x 0) :: r) bx h n c s = some L))) ∨
     (∃ j q, xspl (fun bx' => rec y d pc ls st bx' h n c s) bx j q = some L)) := by
  unfold x_ald at hx
  match st, hx with
  | [], hx => cases hx
  | [_], hx => cases hx
  | i :: w :: r, hx =>
    refine ⟨i, w, r, rfl, ?_⟩
    rcases x_ix_ok hx with ⟨x, h1, h2, h3⟩ | hs
    · refine Or.inl ⟨x, h1, h2, ?_⟩
      cases hw : Nat.beq w.1 4 with
      | true =>
        rw [hw] at h3
        simp only [cond_true] at h3
        cases hq : xg h w.2 with
        | none => rw [hq] at h3; cases h3
        | some q =>
          rw [hq] at h3
          obtain ⟨g1, g2⟩ := xcnd h3
          obtain ⟨g3, g4⟩ := xand g1
          cases hv : xg q.2.2 x with
          | none => rw [hv] at g2; cases g2
          | some v =>
            rw [hv] at g2
            refine Or.inl ⟨xeqb hw, q, v, rfl, ?_, xltb g4, hv, g2⟩
            rcases xor2 g3 with g | g
            · exact Or.inl (xeqb g)
            · exact Or.inr ⟨xeqb (xand g).1, xleb (xand g).2⟩
      | false =>
        rw [hw] at h3
        simp only [cond_false] at h3
        cases hb : (Nat.beq w.1 6 && Nat.beq w.2 0 && Nat.beq kd 13 && Nat.blt x (el 0)) with
        | true =>
          rw [hb] at h3
          obtain ⟨g1, g2⟩ := xand hb
          obtain ⟨g3, g4⟩ := xand g1
          obtain ⟨g5, g6⟩ := xand g3
          exact Or.inr (Or.inl ⟨xeqb g5, xeqb g6, xeqb g4, xltb g2, h3⟩)
        | false =>
          rw [hb] at h3
          simp only [cond_false] at h3
          obtain ⟨hb, h3⟩ := xcnd h3
          obtain ⟨g1, g2⟩ := xand hb
          obtain ⟨g3, g4⟩ := xand g1
          obtain ⟨g5, g6⟩ := xand g3
          exact Or.inr (Or.inr ⟨xeqb g5, (xor2 g6).imp xeqb xeqb, xeqb g4, xltb g2, h3⟩)
    · exact Or.inr hs
theorem x_ast_ok {kd : Nat} (hx : x_ast rec nx y d pc ls st bx h n c s kd = some L) : ∃ v i w r, st = v :: i :: w :: r ∧
    ((∃ x q, xci bx i = some x ∧ x < 2147483648 ∧ w.1 = 4 ∧ xfit (cond (Nat.beq kd 14) 1 0) v = true ∧ xg h w.2 = some q ∧ q.1 = kd ∧ x < q.2.1 ∧ rec y d nx ls r bx (xw h w.2 (q.1, q.2.1, xw q.2.2 x (cond (Nat.beq kd 15) (xb8 v) v))) n c s = some L) ∨
     (∃ j q, xspl (fun bx' => rec y d pc ls st bx' h n c s) bx j q = some L)) := by
  unfold x_ast at hx
  match st, hx with
  | [], hx => cases hx
  | [_], hx => cases hx
  | [_, _], hx => cases hx
  | v :: i :: w :: r, hx =>
    refine ⟨v, i, w, r, rfl, ?_⟩
    rcases x_ix_ok hx with ⟨x, h1, h2, h3⟩ | hs
    · obtain ⟨g1, g2⟩ := xcnd h3
      obtain ⟨g3, g4⟩ := xand g1
      cases hq : xg h w.2 with
      | none => rw [hq] at g2; cases g2
      | some q =>
        rw [hq] at g2
        obtain ⟨g5, g6⟩ := xcnd g2
        obtain ⟨g7, g8⟩ := xand g5
        rw [xsK_eq, xsK_eq] at g6
        exact Or.inl ⟨x, q, h1, h2, xeqb g3, g4, rfl, xeqb g7, xltb g8, g6⟩
    · exact Or.inr hs
theorem x_aas_ok (hx : x_aas rec nx y d pc ls st bx h n c s = some L) : ∃ v i w r, st = v :: i :: w :: r ∧
    ((∃ x q e, xci bx i = some x ∧ x < 2147483648 ∧ w.1 = 4 ∧ v.1 = 4 ∧ xg h w.2 = some q ∧ xg h v.2 = some e ∧ e.1 < 13 ∧ q.1 = 20 + e.1 ∧ x < q.2.1 ∧ rec y d nx ls r bx (xw h w.2 (q.1, q.2.1, xw q.2.2 x v)) n c s = some L) ∨
     (∃ j q, xspl (fun bx' => rec y d pc ls st bx' h n c s) bx j q = some L)) := by
  unfold x_aas at hx
  match st, hx with
  | [], hx => cases hx
  | [_], hx => cases hx
  | [_, _], hx => cases hx
  | v :: i :: w :: r, hx =>
    refine ⟨v, i, w, r, rfl, ?_⟩
    rcases x_ix_ok hx with ⟨x, h1, h2, h3⟩ | hs
    · obtain ⟨g1, g2⟩ := xcnd h3
      obtain ⟨g3, g4⟩ := xand g1
      cases hq : xg h w.2 with
      | none => rw [hq] at g2; cases g2
      | some q =>
        rw [hq] at g2
        dsimp only at g2
        cases he : xg h v.2 with
        | none => rw [he] at g2; cases g2
        | some e =>
          rw [he] at g2
          obtain ⟨g5, g6⟩ := xcnd g2
          obtain ⟨g7, g8⟩ := xand g5
          obtain ⟨g9, g10⟩ := xand g7
          rw [xsK_eq, xsK_eq] at g6
          exact Or.inl ⟨x, q, e, h1, h2, xeqb g3, xeqb g4, rfl, rfl, xltb g9, xeqb g10, xltb g8, g6⟩
    · exact Or.inr hs
end Inv3
theorem xmk_20 {α : Type} (v : α) {k j : Nat} (hk : k ≤ 1048576) (hj : j < k) : xg (xmk v 20 0 k) j = some v := xmk_get v 20 0 k j (by omega) (Nat.zero_le _) (by omega)
section Go3
variable {l : Launch} {D : va_G} {cl : List vw_C} {A : Nat → Prop} {sv : Nat → Int32} {ex : Nat → Nat} {el : Nat → Nat} {eb : Nat → List Nat} {nest : List (String × Nat × MethodName × String)} {txt : Nat → String × Nat × String} {ovr : List String}
variable {mi : xmi} {df : xdf} {bys : Nat → ByteArray} {nm : Nat → MethodName} {rtt : Nat → Option FieldType} {gw : List Cond}
variable {rec : xF} {y d pc : Nat} {ls : List (Nat × xv)} {st : List xv} {bx : xbox} {h : xheap} {n cn sn : Nat} {L : List xleaf}
variable {p : Program} {e : Env} {R : Room} {s : State} {m : MethodId} {args : Array Value} {below : List Frame} {meth : Method} {c : Code} {Q : State → Prop} {as : List Nat} {ws : va_W} {H : Heap} {locs : List Loc} {la : Array Slot} {stv : List Value}
theorem xK1 {cA : ClassId} {ty : FieldType} (hK : va_K D cl [] s) (h : xaT s cA ty) : va_K D cl [(cA, ty)] s := by
  refine ⟨hK.1, fun k q hk => ?_⟩
  have hk0 : k = 0 := by
    have := (List.getElem?_eq_some_iff.mp hk).1
    simp at this; exact this
  subst hk0
  cases hk
  exact h
theorem xK1' {cA : ClassId} {ty : FieldType} (hK : va_K D cl ([] ++ [(cA, ty)]) s) : xaT s cA ty := hK.2 0 _ rfl
/-- an element set -/
theorem xset13 {as : List Nat} {k m : Nat} {t : xct} {f : Nat → Int32} {x : Nat} {w : xv} {v : Int32} (hf : ∀ j : Nat, j < m → ∃ w : xv, xg t j = some w ∧ xden sv ex as w (.int (f j))) (hx : x < m) (hv : xden sv ex as w (.int v)) : ∀ j : Nat, j < m → ∃ w' : xv, xg (xw t x w) j = some w' ∧ xden sv ex as w' (.int (upd f x v j)) := by
  intro j hj
  by_cases e : j = x
  · subst e
    obtain ⟨w0, q1, q2⟩ := hf j hj
    exact ⟨w, xg_self t j w w0 q1, by rw [pk_us]; exact hv⟩
  · obtain ⟨w0, q1, q2⟩ := hf j hj
    exact ⟨w0, by rw [xg_other t x j w e]; exact q1, by rw [pk_un e]; exact q2⟩
theorem xset14 {as : List Nat} {m : Nat} {t : xct} {f : Nat → Int64} {x : Nat} {w : xv} {v : Int64} (hf : ∀ j : Nat, j < m → ∃ w : xv, xg t j = some w ∧ xden sv ex as w (.long (f j))) (hv : xden sv ex as w (.long v)) : ∀ j : Nat, j < m → ∃ w' : xv, xg (xw t x w) j = some w' ∧ xden sv ex as w' (.long (vp_updL f x v j)) := by
  intro j hj
  by_cases e : j = x
  · subst e
    obtain ⟨w0, q1, q2⟩ := hf j hj
    exact ⟨w, xg_self t j w w0 q1, by rw [pk_uLs]; exact hv⟩
  · obtain ⟨w0, q1, q2⟩ := hf j hj
    exact ⟨w0, by rw [xg_other t x j w e]; exact q1, by rw [pk_uLn e]; exact q2⟩
theorem xset20 {as : List Nat} {m : Nat} {t : xct} {f : Nat → Option Nat} {x : Nat} {w : xv} {v : Option Nat} (hf : ∀ j : Nat, j < m → ∃ w : xv, xg t j = some w ∧ xden sv ex as w (va_rf (f j))) (hv : xden sv ex as w (va_rf v)) : ∀ j : Nat, j < m → ∃ w' : xv, xg (xw t x w) j = some w' ∧ xden sv ex as w' (va_rf (va_up f x v j)) := by
  intro j hj
  by_cases e : j = x
  · subst e
    obtain ⟨w0, q1, q2⟩ := hf j hj
    exact ⟨w, xg_self t j w w0 q1, by unfold va_up; rw [if_pos rfl]; exact hv⟩
  · obtain ⟨w0, q1, q2⟩ := hf j hj
    exact ⟨w0, by rw [xg_other t x j w e]; exact q1, by unfold va_up; rw [if_neg e]; exact q2⟩
def xg4 : Instr → Bool
  | .getfield _ => true
  | .putfield _ => true
  | .getstatic _ => true
  | .new _ => true
  | .newarray _ => true
  | .anewarray _ => true
  | .arraylength => true
  | _ => false
set_option maxHeartbeats 4000000 in
theorem xf4 (E : xStp l D cl A sv ex el eb nest txt ovr mi bys nm rtt gw rec y d ls st bx h n cn sn L p e R s m args below meth c Q as ws H locs la stv) {ins : Instr} {len tg r1 r2 : Nat} (hg : xg4 ins = true) (hdec : decode (bys y) pc = .ok (ins, len)) (hI : xI cl nest txt ovr mi df bys nm rtt gw y pc ins len tg r1 r2)
    (hx : xex mi df el eb rec ins (pc + len) tg r1 r2 y d pc ls st bx h n cn sn = some L) : W p l e R s m args below meth c H locs cn sn Q (F0 m pc la stv) := by
  obtain ⟨hrec, ⟨hex, hb, hml, hown, hts, hK, hEX, hA, hnm, hRf, hRl, hRc, hRs⟩, hc, hs, ⟨hbx, hh, hP, hD, hS⟩, ⟨hl, hst⟩, hret⟩ := id E
  cases ins with
  | getfield i =>
    obtain ⟨rfl, hI1, hI2⟩ := hI
    obtain ⟨w, r, rfl, g⟩ := x_get_ok hx
    obtain ⟨v, m1, rfl, hv, hr⟩ := xstR_cons hst
    rcases g with ⟨k1, k2, q, v2, q1, q2, q3, g⟩ | ⟨k1, k2, k3, g⟩
    · obtain ⟨a, ha, rfl⟩ := xden.own sv ex hv k1
      obtain ⟨ee, he, hcr⟩ := xhR.at cl sv ex hh ha q1
      obtain ⟨C, T, N, f1, f2, f3, f4⟩ := hI1 k2
      obtain ⟨⟨rr, e1, e2⟩, fs, e3, e4, e5⟩ := xcR.obj cl sv ex hcr (by rw [q2]; exact k2)
      subst e3
      have e6 : rr = (C, T, N) := Option.some.inj (e1.symm.trans (by rw [q2]; exact f1))
      subst e6
      have e2' : N = q.2.1 := e2
      obtain ⟨w3, v3, a1, a2, a3⟩ := e5 r2 (by rw [← e2']; exact f2)
      have a4 : w3 = v2 := Option.some.inj (a1.symm.trans q3)
      subst a4
      rw [q2] at he
      exact va_get hex hb hts f4 hown hK hP w.2 he f1 r2 f2 (hts _ f3) (fun _ z => z) a2 hdec (xk0 E g ⟨hl, a3, hr⟩)
    · have hv2 := xden.ext sv ex hv k1
      subst hv2
      obtain ⟨-, -, -, dd, -⟩ := hEX
      obtain ⟨d1, d2, d3, d4⟩ := dd w.2 k2
      cases hq : Nat.beq r2 0 with
      | true =>
        rw [hq] at g
        exact vk_getf hex hb d3 hS hown (hts _ ((hI2 k3).1 (xeqb hq))) (fun _ z => z) hdec (xk0 E g ⟨hl, rfl, hr⟩)
      | false =>
        rw [hq] at g
        exact vk_getf hex hb d2 hS hown (hts _ ((hI2 k3).2 (xneb hq))) (fun _ z => z) hdec (xk0 E g ⟨hl, rfl, hr⟩)
  | putfield i =>
    obtain ⟨rfl, hk13, C, T, N, ty, f1, f2, f3, f4, f5, f6, f7, f8⟩ := hI
    obtain ⟨v, w, r, q, w0, rfl, k1, k2, q1, q2, q3, q4, g⟩ := x_put_ok hx
    obtain ⟨vv, m1, rfl, hv, hst⟩ := xstR_cons hst
    obtain ⟨wv, m2, rfl, hw, hr⟩ := xstR_cons hst
    obtain ⟨a, ha, rfl⟩ := xden.own sv ex hw k1
    obtain ⟨ee, he, hcr⟩ := xhR.at cl sv ex hh ha q1
    have hq13 : q.1 < 13 := by rw [q2]; exact hk13
    obtain ⟨hrr, fs, e3, e4, e5⟩ := xcR.obj cl sv ex hcr hq13
    subst e3
    obtain ⟨n1, n2⟩ := xfit_ok hv (ty := ty r2) (by rw [f7]; exact k2)
    have hnew : xcR cl sv ex s as (q.1, q.2.1, xw q.2.2 r2 v) (.inr (q.1, fs.set r2 vv)) := by
      refine Or.inl ⟨hq13, hrr, fs.set r2 vv, rfl, by rw [List.length_set]; exact e4, fun j hj => ?_⟩
      by_cases ej : j = r2
      · subst ej
        exact ⟨v, vv, xg_self _ _ _ _ q4, List.getElem?_set_self (by rw [e4]; exact q3), hv⟩
      · obtain ⟨w3, v3, a1, a2, a3⟩ := e5 j hj
        exact ⟨w3, v3, by rw [show (q.1, q.2.1, xw q.2.2 r2 v).2.2 = xw q.2.2 r2 v from rfl, xg_other _ _ _ _ ej]; exact a1, by rw [List.getElem?_set_ne (Ne.symm ej)]; exact a2, a3⟩
    have hh' := xhR.set cl sv ex hh ha q1 hnew
    have he' : ws[w.2]? = some (a, .inr (r1, fs)) := by rw [q2] at he; exact he
    rw [q2] at hh'
    rw [q2] at g
    cases hfin : (T r2).2.2.2 with
    | false =>
      exact va_put hex hb hts f4 ty f5 f6 hown hK hP hD hS w.2 he' f1 r2 f2 (hts _ f3) (fun _ z => z) hfin (f5 r2 f2) n1 n2 (by rw [e4]; exact q3) hdec
        (fun H1 locs1 hP1 hD1 hS1 => xkk E g (fun _ z => z) (xle.rf _) hc hs ⟨hbx, hh', hP1, hD1, hS1⟩ ⟨hl, hr⟩)
    | true =>
      obtain ⟨b1, b2⟩ := f8 hfin
      exact va_putF hex hb hts f4 ty f5 f6 hown hK hP hD hS w.2 he' f1 r2 f2 (hts _ f3) (fun _ z => z) hfin (hnm.trans b1) b2 (f5 r2 f2) n1 n2 (by rw [e4]; exact q3) hdec
        (fun H1 locs1 hP1 hD1 hS1 => xkk E g (fun _ z => z) (xle.rf _) hc hs ⟨hbx, hh', hP1, hD1, hS1⟩ ⟨hl, hr⟩)
  | getstatic i =>
    obtain ⟨rfl, hI1, hI2⟩ := hI
    have hx : cond (Nat.beq r1 0) (rec y d (pc + 3) ls ((0, 1) :: st) bx h n cn sn) (rec y d (pc + 3) ls ((10, 0) :: st) bx h n cn sn) = some L := hx
    cases hq : Nat.beq r1 0 with
    | true =>
      rw [hq] at hx
      exact va_gets hex hb hEX.2.1 hS hown (hts _ (hI1 (xeqb hq))) (fun _ z => z) hdec (xk0 E hx ⟨hl, rfl, hst⟩)
    | false =>
      rw [hq] at hx
      rcases hEX.2.2.1 with hz | ⟨t, hz⟩
      · exact va_gets hex hb hz hS hown (hts _ (hI2 (xneb hq))) (fun _ z => z) hdec (xk0 E hx ⟨hl, Or.inl rfl, hst⟩)
      · exact va_gets hex hb hz hS hown (hts _ (hI2 (xneb hq))) (fun _ z => z) hdec (xk0 E hx ⟨hl, Or.inr ⟨t, rfl⟩, hst⟩)
  | new i =>
    obtain ⟨rfl, C, T, N, ty, q, f1, f2, f3, f4, f5, f6, f7, f8, f9, f10⟩ := hI
    obtain ⟨q', g1, g⟩ := x_new_ok hx
    have eq : q' = q := Option.some.inj (g1.symm.trans f8)
    subst eq
    obtain ⟨u, q0, g2, g3, g4, g5, g⟩ := x_cell_ok g
    have hu := xu_of g2
    rw [← hu] at g3 g4
    have hdv : ∀ j, j < N → defaultValue (ty j) = vp_V ((List.range N).map (fun j => defaultValue (ty j))) j := by
      intro j hj
      unfold vp_V
      simp [List.getD, hj]
    rw [f9] at g g4
    refine va_new (ci := r1) (fs := (List.range N).map (fun j => defaultValue (ty j))) hex hb hts f3 ty f4 hown (hts _ f5) (hts _ f6) (hts _ f7) hK hP hD hS hA f1 hdv (by omega) (by omega) hdec (fun a H1 hP1 hD1 hS1 => ?_)
    have hnew : xcR cl sv ex s (as ++ [a]) (r1, N, q'.2) (.inr (r1, (List.range N).map (fun j => defaultValue (ty j)))) := by
      refine Or.inl ⟨f2, ⟨_, f1, rfl⟩, _, rfl, by simp, fun j hj => ?_⟩
      obtain ⟨w3, a1, a2⟩ := f10 j hj
      exact ⟨w3, defaultValue (ty j), a1, by rw [List.getElem?_map, List.getElem?_range hj]; rfl, xdv_ok a2⟩
    have hlen := hh.1
    refine xkk E g (fun _ z => z) (xle.push as a) (by omega) (by omega) ⟨hbx, xhR.push cl sv ex hh g5 hnew, hP1, hD1, hS1⟩ ⟨?_, ?_, xstR.mono sv ex (xle.push as a) hst⟩
    · obtain ⟨lv, h1, h2⟩ := hl
      exact ⟨lv, h1, xlsR.mono sv ex (xle.push as a) h2⟩
    · exact ⟨a, by rw [← hlen, List.getElem?_append_right (Nat.le_refl _), Nat.sub_self]; rfl, rfl⟩
  | newarray at_ =>
    obtain ⟨rfl, f1, f2⟩ := hI
    obtain ⟨w, r, k, rfl, g1, g2, g⟩ := x_arr_ok hx
    obtain ⟨u, q0, g3, g4, g5, g6, g⟩ := x_cell_ok g
    have hu := xu_of g3
    rw [← hu] at g4 g5
    obtain ⟨vv, m1, rfl, hv, hr⟩ := xstR_cons hst
    have e1 := xci_ok sv ex hbx hv g1
    subst e1
    have hlen := hh.1
    have hfin : ∀ (a : Nat) (ee : va_E) (H1 : Heap), xcR cl sv ex s (as ++ [a]) (r1, k, xmk (xd0 r2) 20 0 k) ee → va_P D cl (ws ++ [(a, ee)]) H1 → va_D A (ws ++ [(a, ee)]) → va_S A s.heap H1 locs → W p l e R s m args below meth c H1 locs (cn + 1) (sn + k) Q (F0 m (pc + 2) la (.ref a :: m1)) := by
      intro a ee H1 hnew hP1 hD1 hS1
      refine xkk E g (fun _ z => z) (xle.push as a) (by omega) (by omega) ⟨hbx, xhR.push cl sv ex hh g6 hnew, hP1, hD1, hS1⟩ ⟨?_, ?_, xstR.mono sv ex (xle.push as a) hr⟩
      · obtain ⟨lv, h1, h2⟩ := hl
        exact ⟨lv, h1, xlsR.mono sv ex (xle.push as a) h2⟩
      · exact ⟨a, by rw [← hlen, List.getElem?_append_right (Nat.le_refl _), Nat.sub_self]; rfl, rfl⟩
    have hclamp : (nI k).toNatClampNeg = k := nI_clamp (by omega)
    rcases f2 with ⟨rfl, rfl, rfl⟩ | ⟨rfl, rfl, rfl⟩ | ⟨rfl, rfl, rfl⟩
    · refine va_newa (a0 := (k, .inl (fun _ => 0))) hex hb (hts _ f1) (ty := .int) rfl hK hP hD hS hA (fun cA => rfl) (nI_pos (by omega)) hclamp (by show k * 4 ≤ _; omega) (by omega) (by omega) hdec (fun a cA H1 hK1 hP1 hD1 hS1 => hfin a _ H1 ?_ hP1 hD1 hS1)
      exact Or.inr (Or.inl ⟨rfl, cA, _, rfl, xK1' hK1, fun j (hj : j < k) => ⟨(0, 0), xmk_20 _ g2 hj, rfl⟩⟩)
    · refine va_newa (a0 := (k, .inr (.inl (fun _ => 0)))) hex hb (hts _ f1) (ty := .long) rfl hK hP hD hS hA (fun cA => rfl) (nI_pos (by omega)) hclamp (by show k * 8 ≤ _; omega) (by omega) (by omega) hdec (fun a cA H1 hK1 hP1 hD1 hS1 => hfin a _ H1 ?_ hP1 hD1 hS1)
      exact Or.inr (Or.inr (Or.inl ⟨rfl, cA, _, rfl, xK1' hK1, fun j (hj : j < k) => ⟨(2, 0), xmk_20 _ g2 hj, rfl⟩⟩))
    · refine va_newa (a0 := (k, .inl (fun _ => 0))) hex hb (hts _ f1) (ty := .byte) rfl hK hP hD hS hA (fun cA => rfl) (nI_pos (by omega)) hclamp (by show k * 1 ≤ _; omega) (by omega) (by omega) hdec (fun a cA H1 hK1 hP1 hD1 hS1 => hfin a _ H1 ?_ hP1 hD1 hS1)
      exact Or.inr (Or.inr (Or.inr (Or.inl ⟨rfl, cA, _, rfl, xK1' hK1, fun j (hj : j < k) => ⟨(0, 0), xmk_20 _ g2 hj, rfl⟩⟩)))
  | anewarray i =>
    obtain ⟨rfl, f0, rr, f1, f2, f3⟩ := hI
    obtain ⟨w, r, k, rfl, g1, g2, g⟩ := x_arr_ok hx
    obtain ⟨u, q0, g3, g4, g5, g6, g⟩ := x_cell_ok g
    have hu := xu_of g3
    rw [← hu] at g4 g5
    obtain ⟨vv, m1, rfl, hv, hr⟩ := xstR_cons hst
    have e1 := xci_ok sv ex hbx hv g1
    subst e1
    have hlen := hh.1
    have hclamp : (nI k).toNatClampNeg = k := nI_clamp (by omega)
    refine va_newq hex hb hown (hts _ f2) (hEX.2.2.2.2.2.2 _ f3) hK hP hD hS hA (nI_pos (by omega)) hclamp (by omega) (by omega) (by omega) hdec (fun a cA H1 hK1 hP1 hD1 hS1 => ?_)
    have hnew : xcR cl sv ex s (as ++ [a]) (r1, k, xmk (xd0 2) 20 0 k) (.inl (cA, k, .inr (.inr (.inr (.inr (fun _ => none)))))) :=
      Or.inr (Or.inr (Or.inr (Or.inr ⟨f0, cA, rr, _, f1, rfl, xK1' hK1, fun j (hj : j < k) => ⟨(5, 0), xmk_20 _ g2 hj, rfl⟩⟩)))
    refine xkk E g (fun _ z => z) (xle.push as a) (by omega) (by omega) ⟨hbx, xhR.push cl sv ex hh g6 hnew, hP1, hD1, hS1⟩ ⟨?_, ?_, xstR.mono sv ex (xle.push as a) hr⟩
    · obtain ⟨lv, h1, h2⟩ := hl
      exact ⟨lv, h1, xlsR.mono sv ex (xle.push as a) h2⟩
    · exact ⟨a, by rw [← hlen, List.getElem?_append_right (Nat.le_refl _), Nat.sub_self]; rfl, rfl⟩
  | arraylength =>
    obtain rfl : len = 1 := hI
    obtain ⟨w, r, rfl, g⟩ := x_len_ok hx
    obtain ⟨v, m1, rfl, hv, hr⟩ := xstR_cons hst
    rcases g with ⟨k1, q, q1, q2, g⟩ | ⟨k1, k2, g⟩
    · obtain ⟨a, ha, rfl⟩ := xden.own sv ex hv k1
      obtain ⟨ee, he, hcr⟩ := xhR.at cl sv ex hh ha q1
      obtain ⟨cA, x, ty, e1, e2, e3⟩ := xcR.arr cl sv ex hcr q2
      subst e1
      exact va_alen hex hb (xK1 hK e3) hP w.2 0 he rfl (v := nI q.2.1) (by rw [e2]; rfl) hdec (xk0 E g ⟨hl, rfl, hr⟩)
    · have hv2 := xden.ext sv ex hv k1
      subst hv2
      have key : ∀ i : Nat, i = 1 ∨ i = 3 → w.2 = i + 1 → W p l e R s m args below meth c H locs cn sn Q (F0 m pc la (.ref (ex w.2) :: m1)) := by
        intro i hi k2
        rw [k2] at g ⊢
        obtain ⟨cell, h1, h2, h3, h4, h5, h6, h7⟩ := (hEX.2.2.2.1 i hi).2.2.2
        exact W.alen (n := Int32.ofNat (el (i + 1))) hex hb (by rw [hS.2.1 (ex (i + 1)) (Array.getElem?_eq_some_iff.mp h1).1 h7]; exact h1) h2 h5 rfl rfl hdec (xk0 E g ⟨hl, rfl, hr⟩)
      rcases k2 with k2 | k2 | k2
      · rw [k2] at g ⊢
        exact va_slen hex hb hEX.1.1 hEX.1.2.1 hEX.1.2.2 hS hdec (xk0 E g ⟨hl, rfl, hr⟩)
      · exact key 1 (Or.inl rfl) k2
      · exact key 3 (Or.inr rfl) k2
  | _ => cases hg
end Go3
end
section
/-! The step keeps its promise: arrays, calls, answers; and the whole -/
section Inv4
variable {mi : xmi} {rec : xF} {nx y d pc : Nat} {ls : List (Nat × xv)} {st : List xv} {bx : xbox} {h : xheap} {n c s : Nat} {L : List xleaf}
theorem xcp_ok {t1 : xct} {β : Type} {L : β} {k : xct → Option β} : ∀ (m sp dp : Nat) (t2 : xct), xcp t1 m sp dp t2 k = some L → (∀ j : Nat, dp ≤ j → j < dp + m → ∃ w : xv, xg t2 j = some w) →
    ∃ t : xct, k t = some L ∧ (∀ j : Nat, dp ≤ j → j < dp + m → xg t j = xg t1 (sp + (j - dp))) ∧ (∀ j : Nat, (j < dp ∨ dp + m ≤ j) → xg t j = xg t2 j)
  | 0, sp, dp, t2, h, _ => ⟨t2, h, fun j h1 h2 => by omega, fun j _ => rfl⟩
  | m + 1, sp, dp, t2, h, hs => by
    unfold xcp at h
    cases hw : xg t1 sp with
    | none => rw [hw] at h; cases h
    | some w =>
      rw [hw] at h
      dsimp only at h
      rw [xsK_eq] at h
      obtain ⟨w0, hw0⟩ := hs dp (Nat.le_refl _) (by omega)
      obtain ⟨t, g1, g2, g3⟩ := xcp_ok m (sp + 1) (dp + 1) (xw t2 dp w) h (fun j h1 h2 => by
        obtain ⟨w1, hw1⟩ := hs j (by omega) (by omega)
        exact ⟨w1, by rw [xg_other t2 dp j w (by omega)]; exact hw1⟩)
      refine ⟨t, g1, fun j h1 h2 => ?_, fun j hj => ?_⟩
      · by_cases e : j = dp
        · subst e
          rw [g3 j (Or.inl (by omega)), xg_self t2 j w w0 hw0, Nat.sub_self, Nat.add_zero, hw]
        · rw [g2 j (by omega) (by omega)]
          congr 1
          omega
      · rw [g3 j (by omega), xg_other t2 dp j w (by omega)]
theorem x_cpy_ok (hx : x_cpy rec nx y d ls st bx h n c s = some L) : ∃ wm vd b vs a r m dp sp qa qb, st = wm :: vd :: b :: vs :: a :: r ∧ xci bx wm = some m ∧ xci bx vd = some dp ∧ xci bx vs = some sp ∧ a.1 = 4 ∧ b.1 = 4 ∧ xwds r ≤ 8 ∧ 1 ≤ d ∧ xg h a.2 = some qa ∧ xg h b.2 = some qb ∧ (qa.1 = 13 ∨ qa.1 = 14) ∧ qb.1 = qa.1 ∧ sp + m ≤ qa.2.1 ∧ dp + m ≤ qb.2.1 ∧ sp + m < 2147483648 ∧ dp + m < 2147483648 ∧
    xcp qa.2.2 m sp dp qb.2.2 (fun t => xsK h b.2 (qb.1, qb.2.1, t) (fun h' => rec y d nx ls r bx h' n c s)) = some L := by
  unfold x_cpy at hx
  match st, hx with
  | [], hx => cases hx
  | [_], hx => cases hx
  | [_, _], hx => cases hx
  | [_, _, _], hx => cases hx
  | [_, _, _, _], hx => cases hx
  | wm :: vd :: b :: vs :: a :: r, hx =>
    dsimp only at hx
    cases h1 : xci bx wm with
    | none => rw [h1] at hx; cases hx
    | some m =>
      rw [h1] at hx
      dsimp only at hx
      cases h2 : xci bx vd with
      | none => rw [h2] at hx; cases hx
      | some dp =>
        rw [h2] at hx
        dsimp only at hx
        cases h3 : xci bx vs with
        | none => rw [h3] at hx; cases hx
        | some sp =>
          rw [h3] at hx
          obtain ⟨g1, g2⟩ := xcnd hx
          obtain ⟨g3, g4⟩ := xand g1
          obtain ⟨g5, g6⟩ := xand g3
          obtain ⟨g7, g8⟩ := xand g5
          cases hqa : xg h a.2 with
          | none => rw [hqa] at g2; cases g2
          | some qa =>
            rw [hqa] at g2
            dsimp only at g2
            cases hqb : xg h b.2 with
            | none => rw [hqb] at g2; cases g2
            | some qb =>
              rw [hqb] at g2
              obtain ⟨k1, k2⟩ := xcnd g2
              obtain ⟨k3, k4⟩ := xand k1
              obtain ⟨k5, k6⟩ := xand k3
              obtain ⟨k7, k8⟩ := xand k5
              obtain ⟨k9, k10⟩ := xand k7
              obtain ⟨k11, k12⟩ := xand k9
              exact ⟨wm, vd, b, vs, a, r, m, dp, sp, qa, qb, rfl, h1, h2, h3, xeqb g7, xeqb g8, xleb g6, xleb g4, hqa, hqb, (xor2 k11).imp xeqb xeqb, xeqb k12, xleb k10, xleb k8, xltb k6, xltb k4, k2⟩
theorem x_oin_ok (hx : x_oin rec nx y d ls st bx h n c s = some L) : ∃ w r, st = w :: r ∧ w.1 = 4 ∧ xwds r ≤ 8 ∧ 1 ≤ d ∧ rec y d nx ls r bx h n c s = some L := by
  unfold x_oin at hx
  match st, hx with
  | [], hx => cases hx
  | w :: r, hx =>
    obtain ⟨g1, g2⟩ := xcnd hx
    obtain ⟨g3, g4⟩ := xand g1
    obtain ⟨g5, g6⟩ := xand g3
    exact ⟨w, r, rfl, xeqb g5, xleb g6, xleb g4, g2⟩
theorem x_ret_ok (hx : x_ret mi y st bx h n = some L) : (xu mi y).2.2.2.2.1 = 0 ∧ st = [] ∧ L = [(bx, h, n, none)] := by
  unfold x_ret at hx
  cases hq : xg mi y with
  | none => rw [hq] at hx; cases hx
  | some q =>
    rw [hq] at hx
    dsimp only at hx
    rw [xu_of hq]
    split at hx
    · rename_i e
      split at hx
      · exact ⟨e, rfl, (Option.some.inj hx).symm⟩
      · cases hx
    · cases hx
theorem x_iret_ok (hx : x_iret mi y st bx h n = some L) : ∃ w, st = [w] ∧ xrok (xu mi y).2.2.2.2.1 w = true ∧ L = [(bx, h, n, some w)] := by
  unfold x_iret at hx
  cases hq : xg mi y with
  | none => rw [hq] at hx; cases hx
  | some q =>
    rw [hq] at hx
    dsimp only at hx
    rw [xu_of hq]
    split at hx
    · obtain ⟨g1, g2⟩ := xcnd hx
      exact ⟨_, rfl, g1, (Option.some.inj g2).symm⟩
    · cases hx
theorem x_lret_ok (hx : x_lret mi y st bx h n = some L) : ∃ w, st = [w] ∧ (xu mi y).2.2.2.2.1 = 2 ∧ xkd w.1 = 1 ∧ L = [(bx, h, n, some w)] := by
  unfold x_lret at hx
  cases hq : xg mi y with
  | none => rw [hq] at hx; cases hx
  | some q =>
    rw [hq] at hx
    dsimp only at hx
    rw [xu_of hq]
    split at hx
    · rename_i e
      split at hx
      · obtain ⟨g1, g2⟩ := xcnd hx
        exact ⟨_, rfl, e, xeqb g1, (Option.some.inj g2).symm⟩
      · cases hx
    · cases hx
end Inv4
theorem xin {x N : Nat} (h1 : x < 2147483648) (h2 : x < N) : vp_in (nI x) N := fun q => q.elim (nI_pos (by omega)) (fun z => by rw [nI_clamp (by omega)] at z; omega)
theorem xb8_ok {sv : Nat → Int32} {ex : Nat → Nat} {as : List Nat} : ∀ {w : xv} {z : Int32}, xden sv ex as w (.int z) → xden sv ex as (xb8 w) (.int z.toInt8.toInt32)
  | (0, k), z, h => by
    have e2 : z = nI k := Value.int.inj h
    subst e2
    show Value.int _ = Value.int (nI (xnu _))
    rw [nI_xnu]
  | (_ + 1, _), z, _ => ⟨_, rfl⟩
section Go4
variable {l : Launch} {D : va_G} {cl : List vw_C} {A : Nat → Prop} {sv : Nat → Int32} {ex : Nat → Nat} {el : Nat → Nat} {eb : Nat → List Nat} {nest : List (String × Nat × MethodName × String)} {txt : Nat → String × Nat × String} {ovr : List String}
variable {mi : xmi} {df : xdf} {bys : Nat → ByteArray} {nm : Nat → MethodName} {rtt : Nat → Option FieldType} {gw : List Cond}
variable {rec : xF} {y d pc : Nat} {ls : List (Nat × xv)} {st : List xv} {bx : xbox} {h : xheap} {n cn sn : Nat} {L : List xleaf}
variable {p : Program} {e : Env} {R : Room} {s : State} {m : MethodId} {args : Array Value} {below : List Frame} {meth : Method} {c : Code} {Q : State → Prop} {as : List Nat} {ws : va_W} {H : Heap} {locs : List Loc} {la : Array Slot} {stv : List Value}
def xg5 : Instr → Bool
  | .iaload => true
  | .laload => true
  | .baload => true
  | .aaload => true
  | .iastore => true
  | .lastore => true
  | .bastore => true
  | .aastore => true
  | _ => false
set_option maxHeartbeats 4000000 in
theorem xf5 (E : xStp l D cl A sv ex el eb nest txt ovr mi bys nm rtt gw rec y d ls st bx h n cn sn L p e R s m args below meth c Q as ws H locs la stv) {ins : Instr} {len tg r1 r2 : Nat} (hg : xg5 ins = true) (hdec : decode (bys y) pc = .ok (ins, len)) (hI : xI cl nest txt ovr mi df bys nm rtt gw y pc ins len tg r1 r2)
    (hx : xex mi df el eb rec ins (pc + len) tg r1 r2 y d pc ls st bx h n cn sn = some L) : W p l e R s m args below meth c H locs cn sn Q (F0 m pc la stv) := by
  obtain ⟨hrec, ⟨hex, hb, hml, hown, hts, hK, hEX, hA, hnm, hRf, hRl, hRc, hRs⟩, hc, hs, ⟨hbx, hh, hP, hD, hS⟩, ⟨hl, hst⟩, hret⟩ := id E
  cases ins with
  | iaload =>
    obtain rfl : len = 1 := hI
    obtain ⟨i, w, r, rfl, g⟩ := x_ald_ok hx
    rcases g with ⟨x, q1, q2, g⟩ | ⟨j, q, g⟩
    · obtain ⟨vi, m1, rfl, hvi, hst'⟩ := xstR_cons hst
      obtain ⟨vw, m2, rfl, hvw, hr⟩ := xstR_cons hst'
      have e1 := xci_ok sv ex hbx hvi q1
      subst e1
      have hcl : (nI x).toNatClampNeg = x := nI_clamp (by omega)
      rcases g with ⟨k1, q, v, g1, g2, g3, g4, g⟩ | ⟨k1, k2, k3, k4, g⟩ | ⟨k1, k2, k3, k4, g⟩
      · obtain ⟨a, ha, rfl⟩ := xden.own sv ex hvw k1
        obtain ⟨ee, he, hcr⟩ := xhR.at cl sv ex hh ha g1
        obtain ⟨cA, f, e1, e2, e3⟩ := xcR.a13 cl sv ex hcr (by omega)
        subst e1
        refine va_iald hex hb (xK1 hK e2) hP w.2 0 he rfl (xin q2 g3) hdec ?_
        rw [hcl]
        obtain ⟨w3, a1, a2⟩ := e3 x g3
        have a4 : w3 = v := Option.some.inj (a1.symm.trans g4)
        subst a4
        exact xk0 E g ⟨hl, a2, hr⟩
      · have hv2 := xden.ext sv ex hvw k1
        rw [k2] at hv2
        subst hv2
        refine va_sld hex hb hEX.1.1 hEX.1.2.1 hEX.1.2.2 hS (xin q2 k4) hdec ?_
        rw [hcl]
        exact xk0 E g ⟨hl, rfl, hr⟩
      · cases k3
    · exact xksp E g
  | laload =>
    obtain rfl : len = 1 := hI
    obtain ⟨i, w, r, rfl, g⟩ := x_ald_ok hx
    rcases g with ⟨x, q1, q2, g⟩ | ⟨j, q, g⟩
    · obtain ⟨vi, m1, rfl, hvi, hst'⟩ := xstR_cons hst
      obtain ⟨vw, m2, rfl, hvw, hr⟩ := xstR_cons hst'
      have e1 := xci_ok sv ex hbx hvi q1
      subst e1
      have hcl : (nI x).toNatClampNeg = x := nI_clamp (by omega)
      rcases g with ⟨k1, q, v, g1, g2, g3, g4, g⟩ | ⟨k1, k2, k3, k4, g⟩ | ⟨k1, k2, k3, k4, g⟩
      · obtain ⟨a, ha, rfl⟩ := xden.own sv ex hvw k1
        obtain ⟨ee, he, hcr⟩ := xhR.at cl sv ex hh ha g1
        obtain ⟨cA, f, e1, e2, e3⟩ := xcR.a14 cl sv ex hcr (by omega)
        subst e1
        refine va_lald hex hb (xK1 hK e2) hP w.2 0 he rfl (xin q2 g3) hdec ?_
        rw [hcl]
        obtain ⟨w3, a1, a2⟩ := e3 x g3
        have a4 : w3 = v := Option.some.inj (a1.symm.trans g4)
        subst a4
        exact xk0 E g ⟨hl, a2, hr⟩
      · cases k3
      · cases k3
    · exact xksp E g
  | baload =>
    obtain rfl : len = 1 := hI
    obtain ⟨i, w, r, rfl, g⟩ := x_ald_ok hx
    rcases g with ⟨x, q1, q2, g⟩ | ⟨j, q, g⟩
    · obtain ⟨vi, m1, rfl, hvi, hst'⟩ := xstR_cons hst
      obtain ⟨vw, m2, rfl, hvw, hr⟩ := xstR_cons hst'
      have e1 := xci_ok sv ex hbx hvi q1
      subst e1
      have hcl : (nI x).toNatClampNeg = x := nI_clamp (by omega)
      rcases g with ⟨k1, q, v, g1, g2, g3, g4, g⟩ | ⟨k1, k2, k3, k4, g⟩ | ⟨k1, k2, k3, k4, g⟩
      · obtain ⟨a, ha, rfl⟩ := xden.own sv ex hvw k1
        obtain ⟨ee, he, hcr⟩ := xhR.at cl sv ex hh ha g1
        obtain ⟨cA, f, e1, e2, e3⟩ := xcR.a15 cl sv ex hcr (by omega)
        subst e1
        refine va_bald hex hb (xK1 hK e2) hP w.2 0 he rfl (xin q2 g3) hdec ?_
        rw [hcl]
        obtain ⟨w3, a1, a2⟩ := e3 x g3
        have a4 : w3 = v := Option.some.inj (a1.symm.trans g4)
        subst a4
        exact xk0 E g ⟨hl, a2, hr⟩
      · cases k3
      · have hv2 := xden.ext sv ex hvw k1
        subst hv2
        have key : ∀ i : Nat, i = 1 ∨ i = 3 → w.2 = i + 1 → W p l e R s m args below meth c H locs cn sn Q (F0 m pc la (.int (nI x) :: .ref (ex w.2) :: m2)) := by
          intro i hi k2
          rw [k2] at g k4 ⊢
          refine va_tb hex hb (hEX.2.2.2.1 i hi).2.2.2 hS (xin q2 k4) (v := .int (nI ((eb (i + 1)).getD x 0))) (by rw [hcl]) hdec ?_
          exact xk0 E g ⟨hl, rfl, hr⟩
        rcases k2 with k2 | k2
        · exact key 1 (Or.inl rfl) k2
        · exact key 3 (Or.inr rfl) k2
    · exact xksp E g
  | aaload =>
    obtain rfl : len = 1 := hI
    obtain ⟨i, w, r, rfl, g⟩ := x_ald_ok hx
    rcases g with ⟨x, q1, q2, g⟩ | ⟨j, q, g⟩
    · obtain ⟨vi, m1, rfl, hvi, hst'⟩ := xstR_cons hst
      obtain ⟨vw, m2, rfl, hvw, hr⟩ := xstR_cons hst'
      have e1 := xci_ok sv ex hbx hvi q1
      subst e1
      have hcl : (nI x).toNatClampNeg = x := nI_clamp (by omega)
      rcases g with ⟨k1, q, v, g1, g2, g3, g4, g⟩ | ⟨k1, k2, k3, k4, g⟩ | ⟨k1, k2, k3, k4, g⟩
      · obtain ⟨a, ha, rfl⟩ := xden.own sv ex hvw k1
        obtain ⟨ee, he, hcr⟩ := xhR.at cl sv ex hh ha g1
        obtain ⟨cA, rr, f, e0, e1, e2, e3⟩ := xcR.a20 cl sv ex hcr (by omega)
        subst e1
        refine va_aldq hex hb (xK1 hK e2) hP w.2 0 he rfl (xin q2 g3) hdec ?_
        rw [hcl]
        obtain ⟨w3, a1, a2⟩ := e3 x g3
        have a4 : w3 = v := Option.some.inj (a1.symm.trans g4)
        subst a4
        exact xk0 E g ⟨hl, a2, hr⟩
      · cases k3
      · cases k3
    · exact xksp E g
  | iastore =>
    obtain rfl : len = 1 := hI
    obtain ⟨v, i, w, r, rfl, g⟩ := x_ast_ok hx
    rcases g with ⟨x, q, q1, q2, k1, k2, g1, g2, g3, g⟩ | ⟨j, q, g⟩
    · obtain ⟨vv, m0, rfl, hvv, hst'⟩ := xstR_cons hst
      obtain ⟨vi, m1, rfl, hvi, hst'⟩ := xstR_cons hst'
      obtain ⟨vw, m2, rfl, hvw, hr⟩ := xstR_cons hst'
      have e1 := xci_ok sv ex hbx hvi q1
      subst e1
      have hcl : (nI x).toNatClampNeg = x := nI_clamp (by omega)
      obtain ⟨z, rfl⟩ := xden.int sv ex hvv (xeqb k2)
      obtain ⟨a, ha, rfl⟩ := xden.own sv ex hvw k1
      obtain ⟨ee, he, hcr⟩ := xhR.at cl sv ex hh ha g1
      obtain ⟨cA, f, e1, e2, e3⟩ := xcR.a13 cl sv ex hcr g2
      subst e1
      refine va_iast hex hb (xK1 hK e2) hP hD hS w.2 0 he rfl (xin q2 g3) hdec (fun H1 locs1 hP1 hD1 hS1 => ?_)
      rw [hcl] at hP1 hD1
      exact xkk E g (fun _ z => z) (xle.rf _) hc hs ⟨hbx, xhR.set cl sv ex hh ha g1 (Or.inr (Or.inl ⟨g2, cA, _, rfl, e2, xset13 (k := 0) e3 g3 hvv⟩)), hP1, hD1, hS1⟩ ⟨hl, hr⟩
    · exact xksp E g
  | lastore =>
    obtain rfl : len = 1 := hI
    obtain ⟨v, i, w, r, rfl, g⟩ := x_ast_ok hx
    rcases g with ⟨x, q, q1, q2, k1, k2, g1, g2, g3, g⟩ | ⟨j, q, g⟩
    · obtain ⟨vv, m0, rfl, hvv, hst'⟩ := xstR_cons hst
      obtain ⟨vi, m1, rfl, hvi, hst'⟩ := xstR_cons hst'
      obtain ⟨vw, m2, rfl, hvw, hr⟩ := xstR_cons hst'
      have e1 := xci_ok sv ex hbx hvi q1
      subst e1
      have hcl : (nI x).toNatClampNeg = x := nI_clamp (by omega)
      obtain ⟨z, rfl⟩ := xden.long sv ex hvv (xeqb k2)
      obtain ⟨a, ha, rfl⟩ := xden.own sv ex hvw k1
      obtain ⟨ee, he, hcr⟩ := xhR.at cl sv ex hh ha g1
      obtain ⟨cA, f, e1, e2, e3⟩ := xcR.a14 cl sv ex hcr g2
      subst e1
      refine va_last hex hb (xK1 hK e2) hP hD hS w.2 0 he rfl (xin q2 g3) hdec (fun H1 locs1 hP1 hD1 hS1 => ?_)
      rw [hcl] at hP1 hD1
      exact xkk E g (fun _ z => z) (xle.rf _) hc hs ⟨hbx, xhR.set cl sv ex hh ha g1 (Or.inr (Or.inr (Or.inl ⟨g2, cA, _, rfl, e2, xset14 e3 hvv⟩))), hP1, hD1, hS1⟩ ⟨hl, hr⟩
    · exact xksp E g
  | bastore =>
    obtain rfl : len = 1 := hI
    obtain ⟨v, i, w, r, rfl, g⟩ := x_ast_ok hx
    rcases g with ⟨x, q, q1, q2, k1, k2, g1, g2, g3, g⟩ | ⟨j, q, g⟩
    · obtain ⟨vv, m0, rfl, hvv, hst'⟩ := xstR_cons hst
      obtain ⟨vi, m1, rfl, hvi, hst'⟩ := xstR_cons hst'
      obtain ⟨vw, m2, rfl, hvw, hr⟩ := xstR_cons hst'
      have e1 := xci_ok sv ex hbx hvi q1
      subst e1
      have hcl : (nI x).toNatClampNeg = x := nI_clamp (by omega)
      obtain ⟨z, rfl⟩ := xden.int sv ex hvv (xeqb k2)
      obtain ⟨a, ha, rfl⟩ := xden.own sv ex hvw k1
      obtain ⟨ee, he, hcr⟩ := xhR.at cl sv ex hh ha g1
      obtain ⟨cA, f, e1, e2, e3⟩ := xcR.a15 cl sv ex hcr g2
      subst e1
      refine va_bast hex hb (xK1 hK e2) hP hD hS w.2 0 he rfl (xin q2 g3) hdec (fun H1 locs1 hP1 hD1 hS1 => ?_)
      rw [hcl] at hP1 hD1
      exact xkk E g (fun _ z => z) (xle.rf _) hc hs ⟨hbx, xhR.set cl sv ex hh ha g1 (Or.inr (Or.inr (Or.inr (Or.inl ⟨g2, cA, _, rfl, e2, xset13 (k := 0) e3 g3 (xb8_ok hvv)⟩)))), hP1, hD1, hS1⟩ ⟨hl, hr⟩
    · exact xksp E g
  | aastore =>
    obtain rfl : len = 1 := hI
    obtain ⟨v, i, w, r, rfl, g⟩ := x_aas_ok hx
    rcases g with ⟨x, q, eo, q1, q2, k1, k2, g1, g2, g3, g4, g5, g⟩ | ⟨j, q, g⟩
    · obtain ⟨vv, m0, rfl, hvv, hst'⟩ := xstR_cons hst
      obtain ⟨vi, m1, rfl, hvi, hst'⟩ := xstR_cons hst'
      obtain ⟨vw, m2, rfl, hvw, hr⟩ := xstR_cons hst'
      have e1 := xci_ok sv ex hbx hvi q1
      subst e1
      have hcl : (nI x).toNatClampNeg = x := nI_clamp (by omega)
      have hvv0 := hvv
      obtain ⟨b, hb2, rfl⟩ := xden.own sv ex hvv k2
      obtain ⟨a, ha, rfl⟩ := xden.own sv ex hvw k1
      obtain ⟨ee, he, hcr⟩ := xhR.at cl sv ex hh ha g1
      obtain ⟨ef, he2, hcr2⟩ := xhR.at cl sv ex hh hb2 g2
      obtain ⟨cA, rr, f, e0, e1, e2, e3⟩ := xcR.a20 cl sv ex hcr (by omega)
      subst e1
      obtain ⟨-, fs, e4, -, -⟩ := xcR.obj cl sv ex hcr2 g3
      subst e4
      have e0' : cl[eo.1]? = some rr := by rw [← e0]; congr 1; omega
      refine va_astq hex hb (xK1 hK e2) hP hD hS w.2 0 v.2 eo.1 he rfl he2 e0' (xin q2 g5) hdec (fun H1 locs1 hP1 hD1 hS1 => ?_)
      rw [hcl] at hP1 hD1
      exact xkk E g (fun _ z => z) (xle.rf _) hc hs ⟨hbx, xhR.set cl sv ex hh ha g1 (Or.inr (Or.inr (Or.inr (Or.inr ⟨by show 20 ≤ q.1; omega, cA, rr, _, e0, rfl, e2, xset20 (v := some b) e3 hvv0⟩)))), hP1, hD1, hS1⟩ ⟨hl, hr⟩
    · exact xksp E g
  | _ => cases hg
end Go4
end
section
/-! The step keeps its promise: calls, answers; and the whole -/
theorem xnos {L : List xleaf} (h : (none : xR) = some L) : False := by cases h
section Go5
variable {l : Launch} {D : va_G} {cl : List vw_C} {A : Nat → Prop} {sv : Nat → Int32} {ex : Nat → Nat} {el : Nat → Nat} {eb : Nat → List Nat} {nest : List (String × Nat × MethodName × String)} {txt : Nat → String × Nat × String} {ovr : List String}
variable {cd : xcd} {mi : xmi} {df : xdf} {bys : Nat → ByteArray} {nm : Nat → MethodName} {rtt : Nat → Option FieldType} {gw : List Cond}
variable {rec : xF} {y d pc : Nat} {ls : List (Nat × xv)} {st : List xv} {bx : xbox} {h : xheap} {n cn sn : Nat} {L : List xleaf}
variable {p : Program} {e : Env} {R : Room} {s : State} {m : MethodId} {args : Array Value} {below : List Frame} {meth : Method} {c : Code} {Q : State → Prop} {as : List Nat} {ws : va_W} {H : Heap} {locs : List Loc} {la : Array Slot} {stv : List Value}
def xGood (gw : List Cond) : Prop := ∀ w ∈ gw, (w.onTables && w.keeps) = true ∨ ∃ ty, w = .arrayClass ty
/-- a call, once its run is had -/
theorem xgo_fin (E : xStp l D cl A sv ex el eb nest txt ovr mi bys nm rtt gw rec y d ls st bx h n cn sn L p e R s m args below meth c Q as ws H locs la stv) {z : Nat} {ar rest : List xv} {av rv : List Value} (mok : xMok mi bys nm rtt gw z) (hx : x_go mi rec (pc + 3) y d ls bx h n cn sn z ar rest = some L) (har : xstR sv ex as ar av) (hre : xstR sv ex as rest rv)
    (run : ∀ (d' : Nat) (M : List xleaf), d = d' + 1 → Met l (nm z) (Cond.code (nm z) (bys z) (xu mi z).2.2.2.2.2 (rtt z) :: gw) ({ frames := d', cells := (xu mi z).1, slots := (xu mi z).2.1, locals := 43 * d' }) (xPc D cl A sv ex el eb nest txt ovr as h n av) (xQc D cl A sv ex as M) (xu mi z).1 (xu mi z).2.1 A →
      (rv.map fun v => v.category).sum ≤ 8 → cn + (xu mi z).1 ≤ R.cells ∧ sn + (xu mi z).2.1 ≤ R.slots → va_Run p l e R s m args below meth c H locs cn sn (xu mi z).1 (xu mi z).2.1 (F0 m pc la stv) rv (xQc D cl A sv ex as M av.toArray) A) : W p l e R s m args below meth c H locs cn sn Q (F0 m pc la stv) := by
  obtain ⟨hrec, ⟨hex, hb, hml, hown, hts, hK, hEX, hA, hnm, hRf, hRl, hRc, hRs⟩, hc, hs, ⟨hbx, hh, hP, hD, hS⟩, ⟨⟨lv, hl, hls⟩, hst⟩, hret⟩ := id E
  obtain ⟨d', q, u, M, g1, g2, g3, g4, g5, g6, g7, g8, g9⟩ := x_go_ok hx
  have hq := xu_of g2
  have hu := xu_of g3
  rw [← hq] at g6 g7
  rw [← hu] at g5 g6 g7 g9
  have hmet := xmet l D cl A sv ex el eb nest txt ovr mi bys nm rtt gw hrec g8 mok har g5 hbx
  refine xcallW (A := A) (run d' M g1 hmet (by rw [xwds_ok sv ex hre]; exact g4) ⟨by omega, by omega⟩) hS.2.2 (fun _ z => z) (fun v st₀ t H1 locs1 h0 ht hvm hqc hL => ?_)
  obtain ⟨⟨leaf, hleaf, as', ws', rv', hle, hb', hh', hP', hD', hoc, hrv⟩, hF⟩ := hqc
  have ev : v = rv' := by cases hoc; rfl
  subst ev
  obtain ⟨L', k1, k2⟩ := g9 leaf hleaf
  have hS' : va_S A s.heap H1 locs1 := by
    obtain ⟨f1, f2⟩ := hF
    rw [h0] at f1 f2
    rw [ht] at f1 f2
    exact ⟨Nat.le_trans hS.1 f1, fun a ha hna => (f2 a (Nat.lt_of_lt_of_le ha hS.1) hna).trans (hS.2.1 a ha hna), hL⟩
  refine xkk E k1 k2 hle g6 g7 ⟨hb', xhR.moved cl sv ex hvm.symm hh', by rw [← ht]; exact hP', hD', hS'⟩ ⟨⟨lv, hl, xlsR.mono sv ex hle hls⟩, ?_⟩
  cases hlr : leaf.2.2.2 with
  | none =>
    rw [hlr] at hrv
    have e : v = none := hrv
    subst e
    exact xstR.mono sv ex hle hre
  | some w =>
    rw [hlr] at hrv
    obtain ⟨v', rfl, hw⟩ := hrv
    exact ⟨hw, xstR.mono sv ex hle hre⟩
theorem xpre (E : xStp l D cl A sv ex el eb nest txt ovr mi bys nm rtt gw rec y d ls st bx h n cn sn L p e R s m args below meth c Q as ws H locs la stv) {av : List Value} : FrameBlind (xPc D cl A sv ex el eb nest txt ovr as h n av) ∧ ∀ U : State, U.heap = H → s.WarmedH U.vm → xPc D cl A sv ex el eb nest txt ovr as h n av av.toArray U := by
  obtain ⟨hrec, ⟨hex, hb, hml, hown, hts, hK, hEX, hA, hnm, hRf, hRl, hRc, hRs⟩, hc, hs, ⟨hbx, hh, hP, hD, hS⟩, hf, hret⟩ := id E
  refine ⟨fun a U g mk q => ?_, fun U hU hW => ?_⟩
  · obtain ⟨q1, ⟨ws', q2, q3, q4⟩, q5, q6, q7⟩ := q
    exact ⟨q1, ⟨ws', xhR.moved cl sv ex (u := U) (U := U.calling g mk a) (Vm.Alike.refl U.vm) q2, q3, q4⟩, va_K.moved (u := U) (U := U.calling g mk a) (Vm.Alike.refl U.vm) q5, xEX.same A sv ex rfl rfl q6, q7⟩
  · refine ⟨rfl, ⟨ws, xhR.moved cl sv ex hW.alike hh, by rw [hU]; exact hP, hD⟩, va_K.moved hW.alike hK, xEX.moved A sv ex hW (by rw [hU]; exact hS.1) (fun a ha hna => by rw [hU]; exact hS.2.1 a ha hna) hEX, fun q hq => hA q (by rw [hU] at hq; exact Nat.le_trans hS.1 hq)⟩
theorem xpay (hg : xGood gw) {z : Nat} (hts : ∀ w ∈ gw, w.before args s = true) (mok : xMok mi bys nm rtt gw z) : ∀ w ∈ (Cond.code (nm z) (bys z) (xu mi z).2.2.2.2.2 (rtt z) :: gw), ∀ (a' : Array Value) (U : State), s.WarmedH U.vm → w.before a' U = true := by
  intro w hw a' U hW
  have hm : w ∈ gw := by
    rcases List.mem_cons.mp hw with e | e
    · rw [e]; exact mok.1
    · exact e
  exact word_at hW (hg w hm) (hts w hm)
def xg6 : Instr → Bool
  | .invokevirtual _ => true
  | .invokespecial _ => true
  | .invokestatic _ => true
  | .return_ => true
  | .ireturn => true
  | .lreturn => true
  | _ => false
theorem xva_cpy_in {α : Type} {f g : Nat → α} {sp dp k j : Nat} (h : dp ≤ j) (h2 : j < dp + k) : va_cpy f g sp dp k j = f (sp + (j - dp)) := pk_cpy_in h h2
set_option maxHeartbeats 8000000 in
theorem xf6 (hgw : xGood gw) (E : xStp l D cl A sv ex el eb nest txt ovr mi bys nm rtt gw rec y d ls st bx h n cn sn L p e R s m args below meth c Q as ws H locs la stv) {ins : Instr} {len tg r1 r2 : Nat} (hg : xg6 ins = true) (hdec : decode (bys y) pc = .ok (ins, len)) (hI : xI cl nest txt ovr mi df bys nm rtt gw y pc ins len tg r1 r2)
    (hx : xex mi df el eb rec ins (pc + len) tg r1 r2 y d pc ls st bx h n cn sn = some L) : W p l e R s m args below meth c H locs cn sn Q (F0 m pc la stv) := by
  obtain ⟨hrec, ⟨hex, hb, hml, hown, hts, hK, hEX, hA, hnm, hRf, hRl, hRc, hRs⟩, hc, hs, ⟨hbx, hh, hP, hD, hS⟩, ⟨⟨lv, hl, hls⟩, hst⟩, hret⟩ := id E
  cases ins with
  | invokevirtual i =>
    obtain ⟨rfl, mok, f1, f2, f3, f4, f5⟩ := hI
    obtain ⟨u, q, g1, g2, g3, g4⟩ := x_call_ok hx
    have hu := xu_of g1
    obtain ⟨w, l2, g5, g6⟩ := g4 rfl
    obtain ⟨aV, rV, a1, a2, a3, a4⟩ := xpop_ok sv ex _ (acc := []) (accV := []) trivial hst g2
    rw [g5] at a1 g3
    obtain ⟨b0, aV', rfl, hw, har⟩ := xstR_cons a1
    have hsk : stv = aV'.reverse ++ b0 :: rV := by
      have := a3.symm
      simpa using this
    have hlen : aV'.length = (xu mi r1).2.2.1 := by
      rw [hu]
      have := a4
      simp at this
      exact this
    have hrc : ∃ b : Nat, b0 = .ref b ∧ ∃ cellB : Cell, H[b]? = some cellB ∧ cellB.vm.isStatics = false ∧ s.vm.findClass (nm r1).cls = some cellB.cls := by
      have g6 : xrcv u.2.2.2.1 h w = true := g6
      unfold xrcv at g6
      cases hw4 : Nat.beq w.1 4 with
      | true =>
        rw [hw4] at g6
        simp only [cond_true] at g6
        cases hq : xg h w.2 with
        | none => rw [hq] at g6; cases g6
        | some qo =>
          rw [hq] at g6
          obtain ⟨k1, k2⟩ := xand g6
          obtain ⟨a, ha, rfl⟩ := xden.own sv ex hw (xeqb hw4)
          obtain ⟨ee, he, hcr⟩ := xhR.at cl sv ex hh ha hq
          have ek : qo.1 = (xu mi r1).2.2.2.1 := by rw [hu]; exact xeqb k1
          have ek13 : (xu mi r1).2.2.2.1 < 13 := by rw [hu]; exact xltb k2
          obtain ⟨-, fs, e4, -, -⟩ := xcR.obj cl sv ex hcr (by rw [ek]; exact ek13)
          subst e4
          obtain ⟨rr, e1, e2⟩ := f4 ek13
          rw [← e2]
          exact ⟨a, rfl, va_recv hK hP (by rw [← ek] at e1; exact e1) he⟩
      | false =>
        rw [hw4] at g6
        simp only [cond_false] at g6
        obtain ⟨k1, k2⟩ := xand g6
        obtain ⟨k3, k4⟩ := xand k1
        have hv2 := xden.ext sv ex hw (xeqb k3)
        subst hv2
        rw [f5 (by rw [hu]; exact xeqb k2)]
        obtain ⟨cell, h1, h2, h3, -⟩ := (hEX.2.2.2.1 w.2 ((xor2 k4).imp xeqb xeqb)).1.kept hS.2.1
        exact ⟨ex w.2, rfl, cell, h1, h2, h3⟩
    obtain ⟨b, rfl, hcell⟩ := hrc
    refine xgo_fin E mok g3 (av := .ref b :: aV') ⟨hw, har⟩ a2 (fun d' M ed hmet h8 hroom => ?_)
    have hp := xpre E (av := .ref b :: aV')
    refine va_runV (As := aV') (rest := rV) (n := (xu mi r1).2.2.1) (C := (nm r1).cls) (bytes := bys r1) (maxL := (xu mi r1).2.2.2.2.2) (ret := rtt r1) ⟨hex, hb, hml, hown, hts⟩ hmet ⟨⟨rfl, rfl, by show d' + 1 ≤ _; omega, by have := mok.2.2.2.2.2.2; show 8 + ((xu mi r1).2.2.2.2.2 + 11) + 43 * d' ≤ _; omega, xpay hgw hts mok, List.mem_cons_self, hts _ mok.1, hts _ mok.2.1, ⟨mok.2.2.2.1, mok.2.2.2.2.1⟩, fun sig hsig => ?_, hts _ f1⟩, hts _ f2, hts _ f3⟩ ⟨hp.1, hcell, hp.2⟩ rfl hlen hl.1 hsk (lv_room h8) hdec hroom
    have hd := mok.2.2.2.2.2.1
    rw [hsig] at hd
    exact (Option.some.inj hd).symm
  | invokespecial i =>
    obtain ⟨rfl, f1, f2⟩ := hI
    have hx : cond (Nat.beq r2 6) (x_oin rec (pc + 3) y d ls st bx h n cn sn) (x_call mi rec (pc + 3) r1 y d ls st bx h n cn sn true false) = some L := hx
    cases h6 : Nat.beq r2 6 with
    | true =>
      rw [h6] at hx
      obtain ⟨w, r, rfl, g1, g2, g3, g⟩ := x_oin_ok hx
      obtain ⟨v, m1, rfl, hv, hr⟩ := xstR_cons hst
      obtain ⟨a, ha, rfl⟩ := xden.own sv ex hv g1
      obtain ⟨k1, k2, k3⟩ := f1 (xeqb h6)
      have h8 := lv_room (m := m) (pc := pc) (ls := la) (rest := .ref a :: m1) (st := m1) (by rw [xwds_ok sv ex hr]; exact g2)
      exact W.objInit hex hb hown (hts _ k1) (hts _ k2) (hts _ k3) (g := F0 m pc la (.ref a :: m1)) rfl (hl.1.trans hml.symm) rfl hdec (by omega) (by omega) (xk0 E g ⟨⟨lv, hl, hls⟩, hr⟩)
    | false =>
      rw [h6] at hx
      obtain ⟨mok, k1, k2, k3, k4, k5⟩ := f2 (xneb h6)
      obtain ⟨u, q, g1, g2, g3, g4⟩ := x_call_ok hx
      have hu := xu_of g1
      obtain ⟨w, l2, g5, g6⟩ := g4 rfl
      obtain ⟨aV, rV, a1, a2, a3, a4⟩ := xpop_ok sv ex _ (acc := []) (accV := []) trivial hst g2
      rw [g5] at a1 g3
      obtain ⟨b0, aV', rfl, hw, har⟩ := xstR_cons a1
      have hsk : stv = aV'.reverse ++ b0 :: rV := by
        have := a3.symm
        simpa using this
      have hlen : aV'.length = (xu mi r1).2.2.1 := by
        rw [hu]
        have := a4
        simp at this
        exact this
      obtain ⟨b, hab, rfl⟩ := xden.own sv ex hw (xeqb g6)
      refine xgo_fin E mok g3 (av := .ref b :: aV') ⟨hw, har⟩ a2 (fun d' M ed hmet h8 hroom => ?_)
      have hp := xpre E (av := .ref b :: aV')
      have hd := mok.2.2.2.2.2.1
      have hn : ∀ sig, parseMethodDescriptor (nm r1).desc = some sig → (xu mi r1).2.2.1 = sig.parameters.length := fun sig hsig => by
        rw [hsig] at hd
        exact (Option.some.inj hd).symm
      have hpay := xpay hgw hts mok
      have hcode := mok.1
      have hfr : d' + 1 ≤ R.frames := by omega
      have hlo : 8 + ((xu mi r1).2.2.2.2.2 + 11) + 43 * d' ≤ R.locals := by have := mok.2.2.2.2.2.2; omega
      rw [k1] at hmet hpay hcode
      by_cases h5 : r2 = 5
      · obtain ⟨host, hhost⟩ := k5 h5
        exact va_runIN (As := aV') (rest := rV) (n := (xu mi r1).2.2.1) (host := host) (bytes := bys r1) (maxL := (xu mi r1).2.2.2.2.2) ⟨hex, hb, hml, hown, hts⟩ hmet ⟨⟨⟨rfl, rfl, hfr, hlo, hpay, List.mem_cons_self⟩, hts _ hcode, hts _ mok.2.1, ⟨mok.2.2.2.1, mok.2.2.2.2.1⟩, hn, va_Nw.use rfl (hEX.2.2.2.2.2.1 _ hhost)⟩, k2, hts _ k3⟩ hp rfl hlen hl.1 hsk (lv_room h8) hdec hroom
      · exact va_runI (As := aV') (rest := rV) (n := (xu mi r1).2.2.1) (bytes := bys r1) (maxL := (xu mi r1).2.2.2.2.2) ⟨hex, hb, hml, hown, hts⟩ hmet ⟨⟨rfl, rfl, hfr, hlo, hpay, List.mem_cons_self, hts _ hcode, hts _ mok.2.1, ⟨mok.2.2.2.1, mok.2.2.2.2.1⟩, hn, hts _ (k4 h5)⟩, k2, hts _ k3⟩ hp rfl hlen hl.1 hsk (lv_room h8) hdec hroom
  | invokestatic i =>
    obtain ⟨rfl, f1, f2⟩ := hI
    have hx : cond (Nat.beq r2 8) (x_cpy rec (pc + 3) y d ls st bx h n cn sn) (x_call mi rec (pc + 3) r1 y d ls st bx h n cn sn false false) = some L := hx
    cases h6 : Nat.beq r2 8 with
    | true =>
      rw [h6] at hx
      obtain ⟨k1, k2, k3, k4⟩ := f1 (xeqb h6)
      obtain ⟨wm, vd, wb, vs, wa, r, mm, dp, sp, qa, qb, rfl, h1, h2, h3, ha4, hb4, hr8, hd1, hqa, hqb, hkd, hkd2, b1, b2, b3, b4, g⟩ := x_cpy_ok hx
      obtain ⟨vm1, m1, rfl, hvm1, hst'⟩ := xstR_cons hst
      obtain ⟨vd1, m2, rfl, hvd1, hst'⟩ := xstR_cons hst'
      obtain ⟨vb1, m3, rfl, hvb1, hst'⟩ := xstR_cons hst'
      obtain ⟨vs1, m4, rfl, hvs1, hst'⟩ := xstR_cons hst'
      obtain ⟨va1, m5, rfl, hva1, hr⟩ := xstR_cons hst'
      have e1 := xci_ok sv ex hbx hvm1 h1
      have e2 := xci_ok sv ex hbx hvd1 h2
      have e3 := xci_ok sv ex hbx hvs1 h3
      subst e1; subst e2; subst e3
      obtain ⟨a, haa, rfl⟩ := xden.own sv ex hva1 ha4
      obtain ⟨b, hbb, rfl⟩ := xden.own sv ex hvb1 hb4
      obtain ⟨ea, hea, hcra⟩ := xhR.at cl sv ex hh haa hqa
      obtain ⟨eb', heb, hcrb⟩ := xhR.at cl sv ex hh hbb hqb
      have c1 : (nI mm).toNatClampNeg = mm := nI_clamp (by omega)
      have c2 : (nI dp).toNatClampNeg = dp := nI_clamp (by omega)
      have c3 : (nI sp).toNatClampNeg = sp := nI_clamp (by omega)
      have hw8 : (m5.map fun v => v.category).sum + (nativeFrameWords "java/lang/System" "arraycopy" 5 + 11) ≤ R.locals := by
        rw [xwds_ok sv ex hr]
        have : nativeFrameWords "java/lang/System" "arraycopy" 5 = 7 := by decide +kernel
        omega
      rcases hkd with hkd | hkd
      · obtain ⟨cA, f, e1, e2, e3⟩ := xcR.a13 cl sv ex hcra hkd
        obtain ⟨cB, fb, e4, e5, e6⟩ := xcR.a13 cl sv ex hcrb (by omega)
        subst e1; subst e4
        obtain ⟨t, g1, g2, g3⟩ := xcp_ok mm sp dp qb.2.2 g (fun j j1 j2 => by obtain ⟨w3, a1, -⟩ := e6 j (by omega); exact ⟨w3, a1⟩)
        rw [xsK_eq] at g1
        have hK2 : va_K D cl [(cA, .int), (cB, .int)] s := (xK1 hK e2).app (xK1 hK e5)
        refine va_copyi hex hb (hml.trans hl.1.symm) hown (hts _ k1) (hts _ k2) (hts _ k3) (hts _ k4) hK2 hP hD hS wa.2 wb.2 0 1 hea heb rfl rfl rfl (nI_pos (by omega)) (nI_pos (by omega)) (nI_pos (by omega)) (by rw [c3, c1]; exact b1) (by rw [c2, c1]; exact b2) (fun _ _ => rfl) (by omega) hw8 hdec (fun H1 locs1 hP1 hD1 hS1 => ?_)
        rw [c1, c2, c3] at hP1 hD1
        refine xkk E g1 (fun _ z => z) (xle.rf _) hc hs ⟨hbx, xhR.set cl sv ex hh hbb hqb (Or.inr (Or.inl ⟨by show qb.1 = 13; omega, cB, _, rfl, e5, fun j hj => ?_⟩)), hP1, hD1, hS1⟩ ⟨⟨lv, hl, hls⟩, hr⟩
        have hj : j < qb.2.1 := hj
        by_cases hin : dp ≤ j ∧ j < dp + mm
        · obtain ⟨w3, a1, a2⟩ := e3 (sp + (j - dp)) (by omega)
          exact ⟨w3, by rw [show ((qb.1, qb.2.1, t) : xcell).2.2 = t from rfl, g2 j hin.1 hin.2]; exact a1, by rw [pk_cpy_in hin.1 hin.2]; exact a2⟩
        · obtain ⟨w3, a1, a2⟩ := e6 j hj
          exact ⟨w3, by rw [show ((qb.1, qb.2.1, t) : xcell).2.2 = t from rfl, g3 j (by omega)]; exact a1, by rw [pk_cpy_out (by omega)]; exact a2⟩
      · obtain ⟨cA, f, e1, e2, e3⟩ := xcR.a14 cl sv ex hcra hkd
        obtain ⟨cB, fb, e4, e5, e6⟩ := xcR.a14 cl sv ex hcrb (by omega)
        subst e1; subst e4
        obtain ⟨t, g1, g2, g3⟩ := xcp_ok mm sp dp qb.2.2 g (fun j j1 j2 => by obtain ⟨w3, a1, -⟩ := e6 j (by omega); exact ⟨w3, a1⟩)
        rw [xsK_eq] at g1
        have hK2 : va_K D cl [(cA, .long), (cB, .long)] s := (xK1 hK e2).app (xK1 hK e5)
        refine va_copyl hex hb (hml.trans hl.1.symm) hown (hts _ k1) (hts _ k2) (hts _ k3) (hts _ k4) hK2 hP hD hS wa.2 wb.2 0 1 hea heb rfl rfl rfl (nI_pos (by omega)) (nI_pos (by omega)) (nI_pos (by omega)) (by rw [c3, c1]; exact b1) (by rw [c2, c1]; exact b2) (fun _ _ => rfl) (by omega) hw8 hdec (fun H1 locs1 hP1 hD1 hS1 => ?_)
        rw [c1, c2, c3] at hP1 hD1
        refine xkk E g1 (fun _ z => z) (xle.rf _) hc hs ⟨hbx, xhR.set cl sv ex hh hbb hqb (Or.inr (Or.inr (Or.inl ⟨by show qb.1 = 14; omega, cB, _, rfl, e5, fun j hj => ?_⟩))), hP1, hD1, hS1⟩ ⟨⟨lv, hl, hls⟩, hr⟩
        have hj : j < qb.2.1 := hj
        by_cases hin : dp ≤ j ∧ j < dp + mm
        · obtain ⟨w3, a1, a2⟩ := e3 (sp + (j - dp)) (by omega)
          exact ⟨w3, by rw [show ((qb.1, qb.2.1, t) : xcell).2.2 = t from rfl, g2 j hin.1 hin.2]; exact a1, by rw [pk_cpy_in hin.1 hin.2]; exact a2⟩
        · obtain ⟨w3, a1, a2⟩ := e6 j hj
          exact ⟨w3, by rw [show ((qb.1, qb.2.1, t) : xcell).2.2 = t from rfl, g3 j (by omega)]; exact a1, by rw [pk_cpy_out (by omega)]; exact a2⟩
    | false =>
      rw [h6] at hx
      obtain ⟨mok, k1, k2⟩ := f2 (xneb h6)
      obtain ⟨u, q, g1, g2, g3, -⟩ := x_call_ok hx
      have hu := xu_of g1
      obtain ⟨aV, rV, a1, a2, a3, a4⟩ := xpop_ok sv ex _ (acc := []) (accV := []) trivial hst g2
      have hsk : stv = aV.reverse ++ rV := by
        have := a3.symm
        simpa using this
      have hlen : aV.length = (xu mi r1).2.2.1 := by
        rw [hu]
        have := a4
        simp at this
        exact this
      refine xgo_fin E mok g3 (av := aV) a1 a2 (fun d' M ed hmet h8 hroom => ?_)
      have hp := xpre E (av := aV)
      have hd := mok.2.2.2.2.2.1
      have hn : ∀ sig, parseMethodDescriptor (nm r1).desc = some sig → (xu mi r1).2.2.1 = sig.parameters.length := fun sig hsig => by
        rw [hsig] at hd
        exact (Option.some.inj hd).symm
      have hfr : d' + 1 ≤ R.frames := by omega
      have hlo : 8 + ((xu mi r1).2.2.2.2.2 + 11) + 43 * d' ≤ R.locals := by have := mok.2.2.2.2.2.2; omega
      exact va_runS (As := aV) (rest := rV) (n := (xu mi r1).2.2.1) (bytes := bys r1) (maxL := (xu mi r1).2.2.2.2.2) (ret := rtt r1) ⟨hex, hb, hml, hown, hts⟩ hmet ⟨⟨rfl, rfl, hfr, hlo, xpay hgw hts mok, List.mem_cons_self, hts _ mok.1, hts _ mok.2.1, ⟨mok.2.2.2.1, mok.2.2.2.2.1⟩, hn, hts _ k1⟩, hts _ k2⟩ hp rfl hlen hl.1 hsk (lv_room h8) hdec hroom
  | return_ =>
    obtain ⟨rfl, f1⟩ := hI
    obtain ⟨g1, rfl, rfl⟩ := x_ret_ok hx
    have := xstR_nil hst
    subst this
    exact hret (bx, h, n, none) List.mem_cons_self as ws H locs cn sn pc la none (xle.rf _) ⟨hbx, hh, hP, hD, hS⟩ hc hs (Or.inl ⟨f1 g1, rfl, rfl, hdec⟩)
  | ireturn =>
    obtain ⟨rfl, f1, f3, f4, f5⟩ := hI
    obtain ⟨w, rfl, g1, rfl⟩ := x_iret_ok hx
    obtain ⟨v, m1, rfl, hv, hr⟩ := xstR_cons hst
    have := xstR_nil hr
    subst this
    have key : ∃ (x : Int32) (ty : FieldType), v = .int x ∧ rtt y = some ty ∧ narrow ty (.int x) = .int x := by
      unfold xrok at g1
      split at g1
      · rename_i e1
        obtain ⟨x, rfl⟩ := xden.int sv ex hv (xeqb g1)
        exact ⟨x, .int, rfl, f1 e1, rfl⟩
      · rename_i e1
        obtain ⟨k1, k2⟩ := xand g1
        obtain ⟨t, k⟩ := w
        have e2 : t = 0 := xeqb k1
        subst e2
        have e3 : v = .int (nI k) := hv
        refine ⟨nI k, .boolean, e3, f3 e1, ?_⟩
        rcases nI_bool (xleb k2) with z | z <;> rw [z] <;> rfl
      · rename_i e1
        obtain ⟨k1, k2⟩ := xand g1
        obtain ⟨t, k⟩ := w
        have e2 : t = 0 := xeqb k1
        subst e2
        have e3 : v = .int (nI k) := hv
        exact ⟨nI k, .char, e3, f4 e1, xr1 (xltb k2)⟩
      · rename_i e1
        obtain ⟨k1, k2⟩ := xand g1
        obtain ⟨t, k⟩ := w
        have e2 : t = 0 := xeqb k1
        subst e2
        have e3 : v = .int (nI k) := hv
        exact ⟨nI k, .byte, e3, f5 e1, xr2 (xltb k2)⟩
      · cases g1
    obtain ⟨x, ty, rfl, e1, e2⟩ := key
    exact hret (bx, h, n, some w) List.mem_cons_self as ws H locs cn sn pc la (some (.int x)) (xle.rf _) ⟨hbx, hh, hP, hD, hS⟩ hc hs (Or.inr (Or.inl ⟨w, x, ty, e1, rfl, rfl, hv, e2, hdec⟩))
  | lreturn =>
    obtain ⟨rfl, f1⟩ := hI
    obtain ⟨w, rfl, g1, g2, rfl⟩ := x_lret_ok hx
    obtain ⟨v, m1, rfl, hv, hr⟩ := xstR_cons hst
    have := xstR_nil hr
    subst this
    obtain ⟨x, rfl⟩ := xden.long sv ex hv g2
    exact hret (bx, h, n, some w) List.mem_cons_self as ws H locs cn sn pc la (some (.long x)) (xle.rf _) ⟨hbx, hh, hP, hD, hS⟩ hc hs (Or.inr (Or.inr ⟨w, x, f1 g1, rfl, rfl, hv, hdec⟩))
  | _ => cases hg
set_option maxHeartbeats 4000000 in
theorem xstep_snd (hgw : xGood gw) (hOK : xOK cl nest txt ovr cd mi df bys nm rtt gw) (hrec : xSnd l D cl A sv ex el eb nest txt ovr mi bys nm rtt gw rec) : xSnd l D cl A sv ex el eb nest txt ovr mi bys nm rtt gw (xstep cd mi df el eb rec) := by
  intro y d pc ls st bx h n cn sn L hx p e R s m args below meth c Q as ws H locs la stv hC hc hs hw hf hr
  unfold xstep at hx
  cases ht : xg cd y with
  | none => rw [ht] at hx; cases hx
  | some t =>
    rw [ht] at hx
    dsimp only at hx
    cases he : xg t pc with
    | none => rw [he] at hx; cases hx
    | some e1 =>
      rw [he] at hx
      dsimp only at hx
      obtain ⟨len, hnx, hdec, hI⟩ := hOK y t pc e1 ht he
      have E : xStp l D cl A sv ex el eb nest txt ovr mi bys nm rtt gw rec y d ls st bx h n cn sn L p e R s m args below meth c Q as ws H locs la stv := ⟨hrec, hC, hc, hs, hw, hf, hr⟩
      rw [hnx] at hx
      generalize e1.1 = ins at hx hdec hI
      by_cases h1 : xg1 ins = true
      · exact xf1 E h1 hdec hI hx
      by_cases h2 : xg2 ins = true
      · exact xf2 E h2 hdec hI hx
      by_cases h3 : xg3 ins = true
      · exact xf3 E h3 hdec hI hx
      by_cases h4 : xg4 ins = true
      · exact xf4 E h4 hdec hI hx
      by_cases h5 : xg5 ins = true
      · exact xf5 E h5 hdec hI hx
      by_cases h6 : xg6 ins = true
      · exact xf6 hgw E h6 hdec hI hx
      exfalso
      cases ins <;> first | exact h1 rfl | exact h2 rfl | exact h3 rfl | exact h4 rfl | exact h5 rfl | exact h6 rfl | exact xnos hx
theorem xrun_snd (hgw : xGood gw) (hOK : xOK cl nest txt ovr cd mi df bys nm rtt gw) : ∀ f : Nat, xSnd l D cl A sv ex el eb nest txt ovr mi bys nm rtt gw (xrun cd mi df el eb f)
  | 0 => fun _ _ _ _ _ _ _ _ _ _ _ hx => (xnos hx).elim
  | f + 1 => xstep_snd hgw hOK (xrun_snd hgw hOK f)
end Go5
end
