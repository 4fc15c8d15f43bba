/-! The step. cd: the code by method; mi: a method's cells, slots, arguments (without the receiver), receiver's kind, kind of answer (0 void, 1 int, 2 long, 3 boolean, 4 char, 5 byte), words of locals; df: a fresh object of a kind; el: lengths of arrays that were there before; eb: bytes of the text. -/
abbrev xmi : Type := Lean.RArray (Nat × (Nat × Nat × Nat × Nat × Nat × Nat))
abbrev xcd : Type := Lean.RArray (Nat × Lean.RArray (Nat × xins))
abbrev xdf : Type := Lean.RArray (Nat × (Nat × xct))
def xfit (tc : Nat) (w : xv) : Bool :=
  match tc with
  | 0 => Nat.beq (xkd w.1) 0
  | 1 => Nat.beq (xkd w.1) 1
  | 2 => Nat.beq (xkd w.1) 2 || Nat.beq (xkd w.1) 3
  | 3 => Nat.beq w.1 0 && Nat.ble w.2 1
  | _ => false
def xrok (rt : Nat) (w : xv) : Bool :=
  match rt with
  | 1 => Nat.beq (xkd w.1) 0
  | 3 => Nat.beq w.1 0 && Nat.ble w.2 1
  | 4 => Nat.beq w.1 0 && Nat.blt w.2 65536
  | 5 => Nat.beq w.1 0 && Nat.blt w.2 128
  | _ => false
/-- a byte's word -/
def xb8 (w : xv) : xv := match w.1 with
  | 0 => (0, xnu (nI w.2).toInt8.toInt32)
  | _ => (7, 0)
section Step
variable (mi : xmi) (df : xdf) (el : Nat → Nat) (eb : Nat → List Nat) (rec : xF)
variable (nx tg r1 r2 y d pc : Nat) (ls : List (Nat × xv)) (st : List xv) (bx : xbox) (h : xheap) (n c s : Nat)
noncomputable def x_ld (k1 k2 : Nat) : xR :=
  match xlk ls r1 with
  | none => none
  | some w => cond (Nat.beq (xkd w.1) k1 || Nat.beq (xkd w.1) k2) (rec y d nx ls (w :: st) bx h n c s) none
noncomputable def x_st (k1 k2 : Nat) (f : Nat → Nat × xv → Bool) : xR :=
  match st with
  | [] => none
  | w :: r => cond (Nat.beq (xkd w.1) k1 || Nat.beq (xkd w.1) k2) (xfl (f r1) ls (fun m => rec y d nx ((r1, w) :: m) r bx h n c s)) none
noncomputable def x_inc : xR :=
  match xlk ls r1 with
  | none => none
  | some w => match xci bx w with
    | none => none
    | some x => xfl (xk1 r1) ls (fun m => xfrc ((x + r2) % 4294967296) (fun z => rec y d nx ((r1, (0, z)) :: m) st bx h n c s))
noncomputable def x_bi (f : Nat → Nat → Nat) : xR :=
  match st with
  | b :: a :: r => cond (Nat.beq (xkd b.1) 0 && Nat.beq (xkd a.1) 0)
      (match xci bx a with
        | none => rec y d nx ls ((7, 0) :: r) bx h n c s
        | some x => match xci bx b with
          | none => rec y d nx ls ((7, 0) :: r) bx h n c s
          | some z => xfrc (f x z) (fun q => rec y d nx ls ((0, q) :: r) bx h n c s)) none
  | _ => none
/-- a divisor that is known, and isn't 0 -/
noncomputable def x_dv (f : Nat → Nat → Nat) : xR :=
  match st with
  | b :: a :: r => match xci bx a with
    | none => none
    | some x => match xci bx b with
      | none => none
      | some z => cond (Nat.beq (z % 4294967296) 0) none (xfrc (f x z) (fun q => rec y d nx ls ((0, q) :: r) bx h n c s))
  | _ => none
noncomputable def x_bl (f : Nat → Nat → Nat) : xR :=
  match st with
  | b :: a :: r => cond (Nat.beq (xkd b.1) 1 && Nat.beq (xkd a.1) 1)
      (match xcl bx a with
        | none => rec y d nx ls ((8, 0) :: r) bx h n c s
        | some x => match xcl bx b with
          | none => rec y d nx ls ((8, 0) :: r) bx h n c s
          | some z => xfrc (f x z) (fun q => rec y d nx ls ((2, q) :: r) bx h n c s)) none
  | _ => none
noncomputable def x_dl (f : Nat → Nat → Nat) : xR :=
  match st with
  | b :: a :: r => match xcl bx a with
    | none => none
    | some x => match xcl bx b with
      | none => none
      | some z => cond (Nat.beq (z % 18446744073709551616) 0) none (xfrc (f x z) (fun q => rec y d nx ls ((2, q) :: r) bx h n c s))
  | _ => none
/-- a long shifted by an int -/
noncomputable def x_sl (f : Nat → Nat → Nat) : xR :=
  match st with
  | b :: a :: r => cond (Nat.beq (xkd b.1) 0 && Nat.beq (xkd a.1) 1)
      (match xcl bx a with
        | none => rec y d nx ls ((8, 0) :: r) bx h n c s
        | some x => match xci bx b with
          | none => rec y d nx ls ((8, 0) :: r) bx h n c s
          | some z => xfrc (f x z) (fun q => rec y d nx ls ((2, q) :: r) bx h n c s)) none
  | _ => none
noncomputable def x_ui (f : Nat → Nat) : xR :=
  match st with
  | a :: r => cond (Nat.beq (xkd a.1) 0)
      (match xci bx a with
        | none => rec y d nx ls ((7, 0) :: r) bx h n c s
        | some x => xfrc (f x) (fun q => rec y d nx ls ((0, q) :: r) bx h n c s)) none
  | _ => none
noncomputable def x_i2l : xR :=
  match st with
  | a :: r => match a.1 with
    | 0 => xfrc (xnl (nI a.2).toInt64) (fun q => rec y d nx ls ((2, q) :: r) bx h n c s)
    | 1 => rec y d nx ls ((3, a.2) :: r) bx h n c s
    | 7 => rec y d nx ls ((8, 0) :: r) bx h n c s
    | _ => none
  | _ => none
noncomputable def x_l2i : xR :=
  match st with
  | a :: r => cond (Nat.beq (xkd a.1) 1)
      (match xcl bx a with
        | none => rec y d nx ls ((7, 0) :: r) bx h n c s
        | some x => xfrc (x % 4294967296) (fun q => rec y d nx ls ((0, q) :: r) bx h n c s)) none
  | _ => none
noncomputable def x_dup : xR :=
  match st with
  | a :: r => cond (Nat.beq (xkd a.1) 1) none (rec y d nx ls (a :: a :: r) bx h n c s)
  | _ => none
noncomputable def x_pop : xR :=
  match st with
  | a :: r => cond (Nat.beq (xkd a.1) 1) none (rec y d nx ls r bx h n c s)
  | _ => none
noncomputable def x_pop2 : xR :=
  match st with
  | a :: r => cond (Nat.beq (xkd a.1) 1) (rec y d nx ls r bx h n c s) none
  | _ => none
noncomputable def x_dup2 : xR :=
  match st with
  | a :: r => cond (Nat.beq (xkd a.1) 1) (rec y d nx ls (a :: a :: r) bx h n c s)
      (match r with
        | b :: r' => cond (Nat.beq (xkd b.1) 1) none (rec y d nx ls (a :: b :: a :: b :: r') bx h n c s)
        | _ => none)
  | _ => none
noncomputable def x_icmp (o : Jvm.ClassFile.Cond) : xR :=
  match st with
  | b :: a :: r => cond (Nat.beq (xkd b.1) 0 && Nat.beq (xkd a.1) 0)
      (xbr o bx a b (fun t => rec y d (cond t tg nx) ls r bx h n c s) (fun bx' => rec y d pc ls st bx' h n c s)) none
  | _ => none
noncomputable def x_if (o : Jvm.ClassFile.Cond) : xR :=
  match st with
  | a :: r => cond (Nat.beq (xkd a.1) 0)
      (xbr o bx a (0, 0) (fun t => rec y d (cond t tg nx) ls r bx h n c s) (fun bx' => rec y d pc ls st bx' h n c s)) none
  | _ => none
noncomputable def x_nul (t : Bool) : xR :=
  match st with
  | a :: r => match xkd a.1 with
    | 2 => rec y d (cond t nx tg) ls r bx h n c s
    | 3 => rec y d (cond t tg nx) ls r bx h n c s
    | _ => none
  | _ => none
noncomputable def x_lcmp : xR :=
  match st with
  | b :: a :: r => cond (Nat.beq (xkd b.1) 1 && Nat.beq (xkd a.1) 1)
      (match xdec .lt (xrg bx a) (xrg bx b) with
        | some true => rec y d nx ls ((0, 4294967295) :: r) bx h n c s
        | some false => (match xdec .gt (xrg bx a) (xrg bx b) with
          | some true => rec y d nx ls ((0, 1) :: r) bx h n c s
          | some false => rec y d nx ls ((0, 0) :: r) bx h n c s
          | none => (match xpt bx a b with
            | some q => xspl (fun bx' => rec y d pc ls st bx' h n c s) bx q.1 q.2
            | none => rec y d nx ls ((7, 0) :: r) bx h n c s))
        | none => (match xpt bx a b with
          | some q => xspl (fun bx' => rec y d pc ls st bx' h n c s) bx q.1 q.2
          | none => rec y d nx ls ((7, 0) :: r) bx h n c s)) none
  | _ => none
/-- where a table goes -/
def xts (dflt lo hi : Int) (offs : Array Int) (pc : Nat) (z : Int) : Option Nat :=
  if z < lo ∨ hi < z then (if 0 ≤ (pc : Int) + dflt then some ((pc : Int) + dflt).toNat else none)
  else match offs[(z - lo).toNat]? with
    | none => none
    | some o => if 0 ≤ (pc : Int) + o then some ((pc : Int) + o).toNat else none
def xz (x : Nat) : Int := (nI x).toInt
noncomputable def x_tab (dflt lo hi : Int) (offs : Array Int) : xR :=
  match st with
  | a :: r => match xci bx a with
    | some x => (match xts dflt lo hi offs pc (xz x) with
      | some t => rec y d t ls r bx h n c s
      | none => none)
    | none => cond (Nat.beq a.1 1)
        (cond (Nat.blt (xbg bx a.2).2 (lo + 9223372036854775808).toNat || Nat.blt (hi + 9223372036854775808).toNat (xbg bx a.2).1)
          (if 0 ≤ (pc : Int) + dflt then rec y d ((pc : Int) + dflt).toNat ls r bx h n c s else none)
          (xspl (fun bx' => rec y d pc ls st bx' h n c s) bx a.2 (cond (Nat.blt (xbg bx a.2).1 (lo + 9223372036854775808).toNat) (lo + 9223372036854775808).toNat (xbg bx a.2).1))) none
  | _ => none
noncomputable def x_lkp (dflt : Int) (ps : Array (Int × Int)) : xR :=
  match st with
  | a :: r => match xci bx a with
    | none => none
    | some x => if 0 ≤ (pc : Int) + Op.lookupswitch.offset ps.toList dflt (xz x) then rec y d ((pc : Int) + Op.lookupswitch.offset ps.toList dflt (xz x)).toNat ls r bx h n c s else none
  | _ => none
noncomputable def x_get : xR :=
  match st with
  | w :: r => cond (Nat.beq w.1 4)
      (match xg h w.2 with
        | none => none
        | some q => cond (Nat.beq q.1 r1 && Nat.blt r1 13)
            (match xg q.2.2 r2 with
              | none => none
              | some v => rec y d nx ls (v :: r) bx h n c s) none)
      (cond (Nat.beq w.1 6 && (Nat.beq w.2 1 || Nat.beq w.2 3) && Nat.beq r1 98) (rec y d nx ls ((cond (Nat.beq r2 0) (6, w.2 + 1) (0, 0)) :: r) bx h n c s) none)
  | _ => none
noncomputable def x_put : xR :=
  match st with
  | v :: w :: r => cond (Nat.beq w.1 4 && xfit tg v)
      (match xg h w.2 with
        | none => none
        | some q => cond (Nat.beq q.1 r1 && Nat.blt r2 q.2.1)
            (match xg q.2.2 r2 with
              | none => none
              | some _ => xsK q.2.2 r2 v (fun t => xsK h w.2 (q.1, q.2.1, t) (fun h' => rec y d nx ls r bx h' n c s))) none) none
  | _ => none
/-- a new cell -/
noncomputable def x_cell (k m : Nat) (t : xct) (r : List xv) : xR :=
  match xg mi y with
  | none => none
  | some q => cond (Nat.blt c q.1 && Nat.ble (s + m) q.2.1)
      (match xg h n with
        | none => none
        | some _ => xsK h n (k, m, t) (fun h' => xfrc (n + 1) (fun n' => xfrc (c + 1) (fun c' => xfrc (s + m) (fun s' => rec y d nx ls ((4, n) :: r) bx h' n' c' s'))))) none
noncomputable def x_new : xR :=
  match xg df r1 with
  | none => none
  | some q => x_cell mi rec nx y d ls bx h n c s r1 q.1 q.2 st
noncomputable def x_arr (dk : Nat) : xR :=
  match st with
  | w :: r => match xci bx w with
    | none => none
    | some m => cond (Nat.ble m 1048576) (x_cell mi rec nx y d ls bx h n c s r1 m (xmk (xd0 dk) 20 0 m) r) none
  | _ => none
noncomputable def x_len : xR :=
  match st with
  | w :: r => cond (Nat.beq w.1 4)
      (match xg h w.2 with
        | none => none
        | some q => cond (Nat.ble 13 q.1) (rec y d nx ls ((0, q.2.1) :: r) bx h n c s) none)
      (cond (Nat.beq w.1 6 && (Nat.beq w.2 0 || (Nat.beq w.2 2 || Nat.beq w.2 4))) (rec y d nx ls ((0, el w.2) :: r) bx h n c s) none)
  | _ => none
/-- an index that must be known: else the script's place is cut -/
noncomputable def x_ix (i : xv) (k : Nat → xR) : xR :=
  match xci bx i with
  | some x => cond (Nat.blt x 2147483648) (k x) none
  | none => cond (Nat.beq i.1 1) (xspl (fun bx' => rec y d pc ls st bx' h n c s) bx i.2 (xbg bx i.2).1) none
noncomputable def x_ald (kd : Nat) : xR :=
  match st with
  | i :: w :: r => x_ix rec y d pc ls st bx h n c s i (fun x =>
      cond (Nat.beq w.1 4)
        (match xg h w.2 with
          | none => none
          | some q => cond ((Nat.beq q.1 kd || (Nat.beq kd 20 && Nat.ble 20 q.1)) && Nat.blt x q.2.1)
              (match xg q.2.2 x with
                | none => none
                | some v => rec y d nx ls (v :: r) bx h n c s) none)
        (cond (Nat.beq w.1 6 && Nat.beq w.2 0 && Nat.beq kd 13 && Nat.blt x (el 0)) (rec y d nx ls ((1, x) :: r) bx h n c s)
          (cond (Nat.beq w.1 6 && (Nat.beq w.2 2 || Nat.beq w.2 4) && Nat.beq kd 15 && Nat.blt x (el w.2)) (rec y d nx ls ((0, (eb w.2).getD x 0) :: r) bx h n c s) none)))
  | _ => none
noncomputable def x_ast (kd : Nat) : xR :=
  match st with
  | v :: i :: w :: r => x_ix rec y d pc ls st bx h n c s i (fun x =>
      cond (Nat.beq w.1 4 && xfit (cond (Nat.beq kd 14) 1 0) v)
        (match xg h w.2 with
          | none => none
          | some q => cond (Nat.beq q.1 kd && Nat.blt x q.2.1)
              (xsK q.2.2 x (cond (Nat.beq kd 15) (xb8 v) v) (fun t => xsK h w.2 (q.1, q.2.1, t) (fun h' => rec y d nx ls r bx h' n c s))) none) none)
  | _ => none
noncomputable def x_aas : xR :=
  match st with
  | v :: i :: w :: r => x_ix rec y d pc ls st bx h n c s i (fun x =>
      cond (Nat.beq w.1 4 && Nat.beq v.1 4)
        (match xg h w.2 with
          | none => none
          | some q => match xg h v.2 with
            | none => none
            | some e => cond (Nat.blt e.1 13 && Nat.beq q.1 (20 + e.1) && Nat.blt x q.2.1)
              (xsK q.2.2 x v (fun t => xsK h w.2 (q.1, q.2.1, t) (fun h' => rec y d nx ls r bx h' n c s))) none) none)
  | _ => none
/-- a call -/
noncomputable def x_go (z : Nat) (args rest : List xv) : xR :=
  match d with
  | 0 => none
  | d' + 1 => match xg mi y with
    | none => none
    | some q => match xg mi z with
      | none => none
      | some u => cond (Nat.ble (xwds rest) 8 && Nat.ble (xwds args) u.2.2.2.2.2 && Nat.ble (c + u.1) q.1 && Nat.ble (s + u.2.1) q.2.1)
          (match rec z d' 0 (xarg 0 args) [] bx h n 0 0 with
            | none => none
            | some L => xfrc (c + u.1) (fun c' => xfrc (s + u.2.1) (fun s' => xbind (fun l => rec y d nx ls (match l.2.2.2 with
                | none => rest
                | some w => w :: rest) l.1 l.2.1 l.2.2.1 c' s') L))) none
/-- is the receiver of kind k -/
noncomputable def xrcv (k : Nat) (h : xheap) (w : xv) : Bool :=
  cond (Nat.beq w.1 4)
    (match xg h w.2 with
      | none => false
      | some q => Nat.beq q.1 k && Nat.blt k 13)
    (Nat.beq w.1 6 && (Nat.beq w.2 1 || Nat.beq w.2 3) && Nat.beq k 98)
noncomputable def x_call (inst virt : Bool) : xR :=
  match xg mi r1 with
  | none => none
  | some u => match xpop (cond inst (u.2.2.1 + 1) u.2.2.1) [] st with
    | none => none
    | some q => match q.1 with
      | [] => cond inst none (x_go mi rec nx y d ls bx h n c s r1 [] q.2)
      | w :: l => cond (!inst || cond virt (xrcv u.2.2.2.1 h w) (Nat.beq w.1 4)) (x_go mi rec nx y d ls bx h n c s r1 (w :: l) q.2) none
noncomputable def x_oin : xR :=
  match st with
  | w :: r => cond (Nat.beq w.1 4 && Nat.ble (xwds r) 8 && Nat.ble 1 d) (rec y d nx ls r bx h n c s) none
  | _ => none
noncomputable def x_cpy : xR :=
  match st with
  | m :: dp :: b :: sp :: a :: r => match xci bx m with
    | none => none
    | some m => match xci bx dp with
      | none => none
      | some dp => match xci bx sp with
        | none => none
        | some sp => cond (Nat.beq a.1 4 && Nat.beq b.1 4 && Nat.ble (xwds r) 8 && Nat.ble 1 d)
            (match xg h a.2 with
              | none => none
              | some qa => match xg h b.2 with
                | none => none
                | some qb => cond ((Nat.beq qa.1 13 || Nat.beq qa.1 14) && Nat.beq qb.1 qa.1 && Nat.ble (sp + m) qa.2.1 && Nat.ble (dp + m) qb.2.1 && Nat.blt (sp + m) 2147483648 && Nat.blt (dp + m) 2147483648)
                    (xcp qa.2.2 m sp dp qb.2.2 (fun t => xsK h b.2 (qb.1, qb.2.1, t) (fun h' => rec y d nx ls r bx h' n c s))) none) none
  | _ => none
noncomputable def x_ret : xR :=
  match xg mi y with
  | none => none
  | some q => match q.2.2.2.2.1 with
    | 0 => match st with
      | [] => some [(bx, h, n, none)]
      | _ => none
    | _ => none
noncomputable def x_iret : xR :=
  match xg mi y with
  | none => none
  | some q => match st with
    | [w] => cond (xrok q.2.2.2.2.1 w) (some [(bx, h, n, some w)]) none
    | _ => none
noncomputable def x_lret : xR :=
  match xg mi y with
  | none => none
  | some q => match q.2.2.2.2.1 with
    | 2 => match st with
      | [w] => cond (Nat.beq (xkd w.1) 1) (some [(bx, h, n, some w)]) none
      | _ => none
    | _ => none
end Step
noncomputable def xex (mi : xmi) (df : xdf) (el : Nat → Nat) (eb : Nat → List Nat) (rec : xF) (ins : Instr) (nx tg r1 r2 y d pc : Nat) (ls : List (Nat × xv)) (st : List xv) (bx : xbox) (h : xheap) (n c s : Nat) : xR :=
  match ins with
  | .iconst _ => rec y d nx ls ((0, r1) :: st) bx h n c s
  | .bipush _ => rec y d nx ls ((0, r1) :: st) bx h n c s
  | .sipush _ => rec y d nx ls ((0, r1) :: st) bx h n c s
  | .lconst _ => rec y d nx ls ((2, r1) :: st) bx h n c s
  | .ldc _ => cond (Nat.beq r2 0) (rec y d nx ls ((0, r1) :: st) bx h n c s) (cond (Nat.beq r2 1) (rec y d nx ls ((6, 1) :: st) bx h n c s) (cond (Nat.beq r2 2) (rec y d nx ls ((6, 3) :: st) bx h n c s) none))
  | .ldc_w _ => rec y d nx ls ((0, r1) :: st) bx h n c s
  | .ldc2_w _ => rec y d nx ls ((2, r1) :: st) bx h n c s
  | .aconst_null => rec y d nx ls ((5, 0) :: st) bx h n c s
  | .iload _ => x_ld rec nx r1 y d ls st bx h n c s 0 0
  | .iload_n _ => x_ld rec nx r1 y d ls st bx h n c s 0 0
  | .lload _ => x_ld rec nx r1 y d ls st bx h n c s 1 1
  | .lload_n _ => x_ld rec nx r1 y d ls st bx h n c s 1 1
  | .aload _ => x_ld rec nx r1 y d ls st bx h n c s 2 3
  | .aload_n _ => x_ld rec nx r1 y d ls st bx h n c s 2 3
  | .istore _ => x_st rec nx r1 y d ls st bx h n c s 0 0 xk1
  | .istore_n _ => x_st rec nx r1 y d ls st bx h n c s 0 0 xk1
  | .lstore _ => x_st rec nx r1 y d ls st bx h n c s 1 1 xk2
  | .lstore_n _ => x_st rec nx r1 y d ls st bx h n c s 1 1 xk2
  | .astore _ => x_st rec nx r1 y d ls st bx h n c s 2 2 xk1
  | .astore_n _ => x_st rec nx r1 y d ls st bx h n c s 2 2 xk1
  | .iinc _ _ => x_inc rec nx r1 r2 y d ls st bx h n c s
  | .iadd => x_bi rec nx y d ls st bx h n c s (fun a b => (a + b) % 4294967296)
  | .isub => x_bi rec nx y d ls st bx h n c s (fun a b => (a + (4294967296 - b % 4294967296)) % 4294967296)
  | .imul => x_bi rec nx y d ls st bx h n c s (fun a b => (a * b) % 4294967296)
  | .iand => x_bi rec nx y d ls st bx h n c s (fun a b => xnu (nI a &&& nI b))
  | .ior => x_bi rec nx y d ls st bx h n c s (fun a b => xnu (nI a ||| nI b))
  | .ishl => x_bi rec nx y d ls st bx h n c s (fun a b => xnu (nI a <<< (nI b &&& 31)))
  | .ishr => x_bi rec nx y d ls st bx h n c s (fun a b => xnu (nI a >>> (nI b &&& 31)))
  | .idiv => x_dv rec nx y d ls st bx h n c s (fun a b => xnu (nI a / nI b))
  | .irem => x_dv rec nx y d ls st bx h n c s (fun a b => xnu (nI a - nI a / nI b * nI b))
  | .ladd => x_bl rec nx y d ls st bx h n c s (fun a b => xnl (lN a + lN b))
  | .lsub => x_bl rec nx y d ls st bx h n c s (fun a b => xnl (lN a - lN b))
  | .lmul => x_bl rec nx y d ls st bx h n c s (fun a b => xnl (lN a * lN b))
  | .land => x_bl rec nx y d ls st bx h n c s (fun a b => xnl (lN a &&& lN b))
  | .lor => x_bl rec nx y d ls st bx h n c s (fun a b => xnl (lN a ||| lN b))
  | .ldiv => x_dl rec nx y d ls st bx h n c s (fun a b => xnl (lN a / lN b))
  | .lrem => x_dl rec nx y d ls st bx h n c s (fun a b => xnl (lN a - lN a / lN b * lN b))
  | .lshl => x_sl rec nx y d ls st bx h n c s (fun a b => xnl (lN a <<< ((nI b).toInt64 &&& 63)))
  | .lshr => x_sl rec nx y d ls st bx h n c s (fun a b => xnl (lN a >>> ((nI b).toInt64 &&& 63)))
  | .i2l => x_i2l rec nx y d ls st bx h n c s
  | .l2i => x_l2i rec nx y d ls st bx h n c s
  | .i2b => x_ui rec nx y d ls st bx h n c s (fun a => xnu (nI a).toInt8.toInt32)
  | .ineg => x_ui rec nx y d ls st bx h n c s (fun a => xnu (-nI a))
  | .iushr => x_bi rec nx y d ls st bx h n c s (fun a b => xnu ((nI a).toUInt32 >>> ((nI b).toUInt32 &&& Int32.toUInt32 31)).toInt32)
  | .i2s => x_ui rec nx y d ls st bx h n c s (fun a => xnu (nI a).toInt16.toInt32)
  | .i2c => x_ui rec nx y d ls st bx h n c s (fun a => a % 65536)
  | .dup => x_dup rec nx y d ls st bx h n c s
  | .pop => x_pop rec nx y d ls st bx h n c s
  | .dup2 => x_dup2 rec nx y d ls st bx h n c s
  | .pop2 => x_pop2 rec nx y d ls st bx h n c s
  | .goto _ => rec y d tg ls st bx h n c s
  | .if_icmp o _ => x_icmp rec nx tg y d pc ls st bx h n c s o
  | .ifCond o _ => x_if rec nx tg y d pc ls st bx h n c s o
  | .ifnull _ => x_nul rec nx tg y d ls st bx h n c s true
  | .ifnonnull _ => x_nul rec nx tg y d ls st bx h n c s false
  | .lcmp => x_lcmp rec nx y d pc ls st bx h n c s
  | .tableswitch a b e f => x_tab rec y d pc ls st bx h n c s a b e f
  | .lookupswitch a b => x_lkp rec y d pc ls st bx h n c s a b
  | .getfield _ => x_get rec nx r1 r2 y d ls st bx h n c s
  | .putfield _ => x_put rec nx tg r1 r2 y d ls st bx h n c s
  | .getstatic _ => cond (Nat.beq r1 0) (rec y d nx ls ((0, 1) :: st) bx h n c s) (rec y d nx ls ((10, 0) :: st) bx h n c s)
  | .new _ => x_new mi df rec nx r1 y d ls st bx h n c s
  | .newarray _ => x_arr mi rec nx r1 y d ls st bx h n c s r2
  | .anewarray _ => x_arr mi rec nx r1 y d ls st bx h n c s 2
  | .arraylength => x_len el rec nx y d ls st bx h n c s
  | .iaload => x_ald el eb rec nx y d pc ls st bx h n c s 13
  | .laload => x_ald el eb rec nx y d pc ls st bx h n c s 14
  | .baload => x_ald el eb rec nx y d pc ls st bx h n c s 15
  | .aaload => x_ald el eb rec nx y d pc ls st bx h n c s 20
  | .iastore => x_ast rec nx y d pc ls st bx h n c s 13
  | .lastore => x_ast rec nx y d pc ls st bx h n c s 14
  | .bastore => x_ast rec nx y d pc ls st bx h n c s 15
  | .aastore => x_aas rec nx y d pc ls st bx h n c s
  | .invokevirtual _ => x_call mi rec nx r1 y d ls st bx h n c s true true
  | .invokestatic _ => cond (Nat.beq r2 8) (x_cpy rec nx y d ls st bx h n c s) (x_call mi rec nx r1 y d ls st bx h n c s false false)
  | .invokespecial _ => cond (Nat.beq r2 6) (x_oin rec nx y d ls st bx h n c s) (x_call mi rec nx r1 y d ls st bx h n c s true false)
  | .return_ => x_ret mi y st bx h n
  | .ireturn => x_iret mi y st bx h n
  | .lreturn => x_lret mi y st bx h n
  | _ => none
noncomputable def xstep (cd : xcd) (mi : xmi) (df : xdf) (el : Nat → Nat) (eb : Nat → List Nat) (rec : xF) : xF := fun y d pc ls st bx h n c s =>
  match xg cd y with
  | none => none
  | some t => match xg t pc with
    | none => none
    | some e => xex mi df el eb rec e.1 e.2.1 e.2.2.1 e.2.2.2.1 e.2.2.2.2 y d pc ls st bx h n c s
noncomputable def xrun (cd : xcd) (mi : xmi) (df : xdf) (el : Nat → Nat) (eb : Nat → List Nat) (f : Nat) : xF :=
  Nat.rec (motive := fun _ => xF) (fun _ _ _ _ _ _ _ _ _ _ => none) (fun _ r => xstep cd mi df el eb r) f
