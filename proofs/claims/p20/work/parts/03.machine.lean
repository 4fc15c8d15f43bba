/-! The path explorer: one frame at a time, ints of the script by intervals, all else concrete.
A value is a tag and a number. 0: int constant; 1: the script's int at that place; 2: long constant; 3: the script's int, widened; 4: a cell of ours; 5: null; 6: a cell that was there before; 7: some int; 8: some long; 10: a reference or null. -/
abbrev xv : Type := Nat × Nat
abbrev xct : Type := Lean.RArray (Nat × xv)
abbrev xcell : Type := Nat × Nat × xct
abbrev xheap : Type := Lean.RArray (Nat × xcell)
abbrev xbox : Type := List (Nat × Nat)
/-- instruction, next pc, target, two numbers -/
abbrev xins : Type := Instr × Nat × Nat × Nat × Nat
abbrev xleaf : Type := xbox × xheap × Nat × Option xv
abbrev xR : Type := Option (List xleaf)
/-- method, depth, pc, locals, stack, box, heap, cells in it, cells and slots made -/
abbrev xF : Type := Nat → Nat → Nat → List (Nat × xv) → List xv → xbox → xheap → Nat → Nat → Nat → xR
noncomputable def xfrc {β : Type} (n : Nat) (c : Nat → β) : β := Nat.rec (motive := fun _ => β) (c 0) (fun m _ => c (Nat.succ m)) n
theorem xfrc_eq {β : Type} (n : Nat) (c : Nat → β) : xfrc n c = c n := by cases n <;> rfl
/-- 0 int, 1 long, 2 a reference, 3 null -/
def xkd : Nat → Nat
  | 0 => 0
  | 1 => 0
  | 2 => 1
  | 3 => 1
  | 4 => 2
  | 5 => 3
  | 6 => 2
  | 7 => 0
  | 8 => 1
  | 10 => 4
  | _ => 9
/-- the number of an int, 2^63 added -/
def xoi (n : Nat) : Nat := cond (Nat.ble 2147483648 (n % 4294967296)) (n % 4294967296 + 9223372032559808512) (n % 4294967296 + 9223372036854775808)
def xol (n : Nat) : Nat := (n + 9223372036854775808) % 18446744073709551616
def xbg : xbox → Nat → Nat × Nat
  | [], _ => (0, 18446744073709551616)
  | q :: _, 0 => q
  | _ :: l, i + 1 => xbg l i
def xbs : xbox → Nat → Nat → Nat → xbox
  | [], _, _, _ => []
  | _ :: l, 0, lo, hi => (lo, hi) :: l
  | q :: l, i + 1, lo, hi => q :: xbs l i lo hi
def xrg (bx : xbox) (w : xv) : Nat × Nat :=
  match w.1 with
  | 0 => (xoi w.2, xoi w.2)
  | 1 => xbg bx w.2
  | 2 => (xol w.2, xol w.2)
  | 3 => xbg bx w.2
  | _ => (0, 18446744073709551616)
/-- an int that is known -/
def xci (bx : xbox) (w : xv) : Option Nat :=
  match w.1 with
  | 0 => some w.2
  | 1 => cond (Nat.beq (xbg bx w.2).1 (xbg bx w.2).2) (some ((xbg bx w.2).1 % 4294967296)) none
  | _ => none
def xcl (bx : xbox) (w : xv) : Option Nat :=
  match w.1 with
  | 2 => some w.2
  | 3 => cond (Nat.beq (xbg bx w.2).1 (xbg bx w.2).2) (some (((xbg bx w.2).1 + 9223372036854775808) % 18446744073709551616)) none
  | _ => none
def xapp (a b : xR) : xR :=
  match a with
  | none => none
  | some x => match b with
    | none => none
    | some y => some (x ++ y)
def xbind (k : xleaf → xR) : List xleaf → xR
  | [] => some []
  | q :: l => xapp (k q) (xbind k l)
/-- the place i of the script is below o, o, or above -/
def xspl (k : xbox → xR) (bx : xbox) (i o : Nat) : xR :=
  xapp (cond (Nat.ble o (xbg bx i).1) (some []) (k (xbs bx i (xbg bx i).1 (o - 1))))
    (xapp (k (xbs bx i o o)) (cond (Nat.ble (xbg bx i).2 o) (some []) (k (xbs bx i (o + 1) (xbg bx i).2))))
/-- what a compare of two intervals says -/
def xdec (o : Jvm.ClassFile.Cond) (a b : Nat × Nat) : Option Bool :=
  match o with
  | .eq => cond (Nat.beq a.1 a.2 && Nat.beq b.1 b.2 && Nat.beq a.1 b.1) (some true) (cond (Nat.blt a.2 b.1 || Nat.blt b.2 a.1) (some false) none)
  | .ne => cond (Nat.beq a.1 a.2 && Nat.beq b.1 b.2 && Nat.beq a.1 b.1) (some false) (cond (Nat.blt a.2 b.1 || Nat.blt b.2 a.1) (some true) none)
  | .lt => cond (Nat.blt a.2 b.1) (some true) (cond (Nat.ble b.2 a.1) (some false) none)
  | .ge => cond (Nat.blt a.2 b.1) (some false) (cond (Nat.ble b.2 a.1) (some true) none)
  | .gt => cond (Nat.blt b.2 a.1) (some true) (cond (Nat.ble a.2 b.1) (some false) none)
  | .le => cond (Nat.blt b.2 a.1) (some false) (cond (Nat.ble a.2 b.1) (some true) none)
/-- where to cut -/
def xpt (bx : xbox) (a b : xv) : Option (Nat × Nat) :=
  cond ((Nat.beq a.1 1 || Nat.beq a.1 3) && Nat.beq (xrg bx b).1 (xrg bx b).2) (some (a.2, (xrg bx b).1))
    (cond ((Nat.beq b.1 1 || Nat.beq b.1 3) && Nat.beq (xrg bx a).1 (xrg bx a).2) (some (b.2, (xrg bx a).1)) none)
/-- a branch: k of 'taken' -/
def xbr (o : Jvm.ClassFile.Cond) (bx : xbox) (a b : xv) (k : Bool → xR) (again : xbox → xR) : xR :=
  match xdec o (xrg bx a) (xrg bx b) with
  | some t => k t
  | none => match xpt bx a b with
    | some q => xspl again bx q.1 q.2
    | none => xapp (k true) (k false)
/-- a local -/
def xlk : List (Nat × xv) → Nat → Option xv
  | [], _ => none
  | q :: l, i => cond (Nat.beq q.1 i) (some q.2) (xlk l i)
/-- what is left of the locals when a word, or two, are stored at i -/
def xk1 (i : Nat) (q : Nat × xv) : Bool := !(Nat.beq q.1 i) && !(Nat.beq (q.1 + 1) i && Nat.beq (xkd q.2.1) 1)
def xk2 (i : Nat) (q : Nat × xv) : Bool := !(Nat.beq q.1 i) && (!(Nat.beq q.1 (i + 1)) && !(Nat.beq (q.1 + 1) i && Nat.beq (xkd q.2.1) 1))
def xfl {β : Type} (f : Nat × xv → Bool) : List (Nat × xv) → (List (Nat × xv) → β) → β
  | [], c => c []
  | q :: l, c => cond (f q) (xfl f l (fun m => c (q :: m))) (xfl f l c)
theorem xfl_eq {β : Type} (f : Nat × xv → Bool) : ∀ (l : List (Nat × xv)) (c : List (Nat × xv) → β), xfl f l c = c (l.filter f)
  | [], c => rfl
  | q :: l, c => by
    show cond (f q) (xfl f l (fun m => c (q :: m))) (xfl f l c) = _
    rw [xfl_eq f l, xfl_eq f l, List.filter_cons]
    cases f q <;> rfl
/-- the last n of the stack, in their order, and the rest -/
def xpop : Nat → List xv → List xv → Option (List xv × List xv)
  | 0, acc, st => some (acc, st)
  | _ + 1, _, [] => none
  | n + 1, acc, w :: st => xpop n (w :: acc) st
def xarg : Nat → List xv → List (Nat × xv)
  | _, [] => []
  | i, w :: l => (i, w) :: xarg (cond (Nat.beq (xkd w.1) 1) (i + 2) (i + 1)) l
def xwds : List xv → Nat
  | [] => 0
  | w :: l => cond (Nat.beq (xkd w.1) 1) 2 1 + xwds l
def xnu (x : Int32) : Nat := x.toBitVec.toNat
def xnl (x : Int64) : Nat := x.toBitVec.toNat
/-- a cell of n places, all of the type's first value: 0 int, 1 long, 2 reference -/
def xd0 : Nat → xv
  | 0 => (0, 0)
  | 1 => (2, 0)
  | _ => (5, 0)
/-- contents by a list -/
noncomputable def xsl {β : Type} : List xv → Nat → xct → (xct → β) → β
  | [], _, t, c => c t
  | w :: l, i, t, c => xsK t i w (fun t' => xsl l (i + 1) t' c)
/-- n places of t1 from sp on into t2 from dp on -/
noncomputable def xcp {β : Type} (t1 : xct) : Nat → Nat → Nat → xct → (xct → Option β) → Option β
  | 0, _, _, t2, c => c t2
  | n + 1, sp, dp, t2, c => match xg t1 sp with
    | none => none
    | some w => xsK t2 dp w (fun t => xcp t1 n (sp + 1) (dp + 1) t c)
