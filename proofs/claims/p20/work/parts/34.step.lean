/-! The checker's step: one instruction over expressions; rec is asked about what follows -/
abbrev afr : Type := Nat × Nat × List (Nat × av) × List av
/-- method, depth that is left at least, pc, locals, stack, frames below, places, intervals, facts, ghosts, symbols -/
abbrev aF : Type := Nat → Nat → Nat → List (Nat × av) → List av → List afr → List am → aenv → List ae → List gho → Nat → Bool
def alk : List (Nat × av) → Nat → Option av
  | [], _ => none
  | q :: l, i => cond (Nat.beq q.1 i) (some q.2) (alk l i)
def akp (f : Nat → Nat × xv → Bool) (i : Nat) (q : Nat × av) : Bool := f i (q.1, (q.2.1, 0))
def aflt (p : Nat × av → Bool) : List (Nat × av) → (List (Nat × av) → Bool) → Bool
  | [], c => c []
  | q :: l, c => cond (p q) (aflt p l (fun m => c (q :: m))) (aflt p l c)
theorem aflt_eq (p : Nat × av → Bool) : ∀ (l : List (Nat × av)) (c : List (Nat × av) → Bool), aflt p l c = c (l.filter p)
  | [], _ => rfl
  | q :: l, c => by
    show cond (p q) (aflt p l (fun m => c (q :: m))) (aflt p l c) = _
    rw [aflt_eq p l, aflt_eq p l, List.filter_cons]
    cases p q <;> rfl
/-- a number's value -/
def sI (n : Nat) : Int := cond (Nat.blt n 2147483648) (Int.ofNat n) (Int.negSucc (4294967295 - n))
def sL (n : Nat) : Int := cond (Nat.blt n 9223372036854775808) (Int.ofNat n) (Int.negSucc (18446744073709551615 - n))
def aneg : Jvm.ClassFile.Cond → Jvm.ClassFile.Cond
  | .eq => .ne
  | .ne => .eq
  | .lt => .ge
  | .ge => .lt
  | .gt => .le
  | .le => .gt
/-- e, if it is in the range, else anything there -/
noncomputable def aar (tag : Nat) (e : ae) (lo hi : Int) (env : aenv) (fx : List ae) (ne : Nat) (k : av → aenv → Nat → Bool) : Bool :=
  cond (efit env fx e lo hi) (k (tag, 0, e) env ne) (afrs lo hi env ne (fun env' ne' => k (tag, 0, esym ne) env' ne'))
/-- something between lo and hi -/
noncomputable def aany (tag : Nat) (lo hi : Int) (env : aenv) (ne : Nat) (k : av → aenv → Nat → Bool) : Bool :=
  cond (zeq lo hi) (zfrc lo (fun z => k (tag, 0, (z, [])) env ne)) (zfrc lo (fun lo => zfrc hi (fun hi => afrs lo hi env ne (fun env' ne' => k (tag, 0, esym ne) env' ne'))))
noncomputable def acn2 (sp : Bool) (o : Jvm.ClassFile.Cond) (env : aenv) (fx : List ae) (e : ae) (k : aenv → List ae → Bool) : Bool :=
  match o, sp with
  | .ne, true => cond (acnd .lt env fx e k) (acnd .gt env fx e k) false
  | o, _ => acnd o env fx e k
def awds : List av → Nat
  | [] => 0
  | w :: l => cond (Nat.beq (xkd w.1) 1) 2 1 + awds l
def aarg : Nat → List av → List (Nat × av)
  | _, [] => []
  | i, w :: l => (i, w) :: aarg (cond (Nat.beq (xkd w.1) 1) (i + 2) (i + 1)) l
/-! stores -/
/-- may the index meet the column -/
def ahit (lo hi : Int) (n : ae) (c : acol) : Bool := cond (zle c.1 hi) (cond (zle lo c.2.1) (cond (zeq c.2.2.1 1) true (zeq (Int.emod (Int.add n.1 (Int.neg c.1)) (Nat.gcd c.2.2.1.natAbs (zgcd n.2) : Nat)) 0)) false) false
/-- a column that lies d behind c, no wider -/
def acol2 (d : Int) (b : Int × Int × List acol) (c : acol) (l : List (Int × Int × List acol)) : Bool :=
  l.any (fun b2 => cond (zeq b2.1 (Int.add b.1 d)) (cond (zeq b2.2.1 (Int.add b.2.1 d)) (b2.2.2.any (fun c2 => cond (zeq c2.1 (Int.add c.1 d)) (cond (zeq c2.2.1 (Int.add c.2.1 d)) (cond (zeq c2.2.2.1 c.2.2.1) (cond (zle c.2.2.2.1 c2.2.2.2.1) (zle c2.2.2.2.2 c.2.2.2.2) false) false) false) false)) false) false)
noncomputable def acpr (env : aenv) (mem : List am) (t : Nat) (c i e : ae) (cols : List (Int × Int × List acol)) (b : Int × Int × List acol) (col : acol) : Bool :=
  mem.any (fun m => cond (Nat.beq m.1 t) (cond (cond (Nat.beq m.2.2.2.1 0) true (Nat.beq m.2.2.2.1 2)) (cond (eeqb m.2.2.2.2.2 e) (cond (eeq env m.2.1 c) (efrc (enor env (eadd m.2.2.1 i (-1))) (fun d => match d.2 with
    | [] => acol2 d.1 b col cols
    | _ => false)) false) false) false) false)
noncomputable def acok (env : aenv) (fx : List ae) (mem : List am) (t : Nat) (c i : ae) (lo hi : Int) (e : ae) (cols : List (Int × Int × List acol)) : Bool :=
  cols.all (fun b => cond (cond (zle b.1 hi) (zle lo b.2.1) false) (b.2.2.all (fun col => cond (ahit lo hi i col) (cond (efit env fx e col.2.2.2.1 col.2.2.2.2) true (acpr env mem t c i e cols b col)) true)) true)
section Store
variable (typs : Lean.RArray (Nat × aty)) (HS : aenv → List ae → List am → List gho → Nat → ae → ae → av → List gho) (WOK : aenv → List ae → Nat → ae → ae → Bool)
/-- a number put at a place -/
noncomputable def astor (t : Nat) (c0 i0 : ae) (v : av) (mem : List am) (env : aenv) (fx : List ae) (gh : List gho) (ne : Nat) (k : List am → List gho → Bool) : Bool :=
  efrc (enor env c0) (fun c => efrc (enor env i0) (fun i => match xg typs t with
    | none => false
    | some T => match eu env i with
      | none => false
      | some hi => efrc (escl i (-1)) (fun n => match eu env n with
        | none => false
        | some lo => zfrc (Int.neg lo) (fun lo => cond (WOK env fx t c i) (cond (acok env fx mem t c i lo hi v.2.2 T.2.2.2.1)
          (match amg env t c i mem with
            | some old => cond (Nat.beq old.1 v.1 && eeq env old.2.2 v.2.2) (k mem gh) (amk env t c i mem (fun r => k ((t, c, i, v) :: r) (HS env fx mem gh t c i v)))
            | none => amk env t c i mem (fun r => k ((t, c, i, v) :: r) (HS env fx mem gh t c i v))) false) false))))
end Store
/-- the symbol that is the script's length; the one that is the script's int at e -/
def asl : List gho → Option Nat
  | [] => none
  | q :: l => cond (Nat.beq q.1 51) (some q.2.1) (asl l)
noncomputable def asg (env : aenv) (e : ae) : List gho → Option Nat
  | [] => none
  | q :: l => cond (Nat.beq q.1 50) (cond (eeq env q.2.2.2 e) (some q.2.1) (asg env e l)) (asg env e l)
section AStep
variable (h0 : xheap) (tyt : Lean.RArray (Nat × Nat)) (typs : Lean.RArray (Nat × aty)) (HK : aenv → List ae → List am → List gho → Nat → ae → ae → Int × Int → Int × Int) (HS : aenv → List ae → List am → List gho → Nat → ae → ae → av → List gho) (WOK : aenv → List ae → Nat → ae → ae → Bool) (WOA : aenv → List ae → Nat → ae → Bool)
variable (HA : aenv → List ae → List am → List gho → Nat → ae → Nat → ae → ae → ae → ae → List gho)
variable (mi : xmi) (el : Nat → Nat) (eb : Nat → List Nat) (inl : Nat → Bool)
variable (SM : Nat → Nat → List av → List am → aenv → List ae → List gho → Nat → (Option av → List am → aenv → List ae → List gho → Nat → Bool) → Bool) (RT : Option av → List am → aenv → List ae → List gho → Nat → Bool)
variable (rec : aF)
variable (nx tg r1 r2 y dd pc : Nat) (ls : List (Nat × av)) (st : List av) (fr : List afr) (mem : List am) (env : aenv) (fx : List ae) (gh : List gho) (ne : Nat)
noncomputable def a_psh (z : Int) : Bool := zfrc z (fun z => rec y dd nx ls ((0, 0, (z, [])) :: st) fr mem env fx gh ne)
noncomputable def a_pshL (z : Int) : Bool := zfrc z (fun z => rec y dd nx ls ((2, 0, (z, [])) :: st) fr mem env fx gh ne)
noncomputable def a_ld (k1 k2 : Nat) : Bool :=
  match alk ls r1 with
  | none => false
  | some w => cond (Nat.beq (xkd w.1) k1 || Nat.beq (xkd w.1) k2) (rec y dd nx ls (w :: st) fr mem env fx gh ne) false
noncomputable def a_st (k1 k2 : Nat) (f : Nat → Nat × xv → Bool) : Bool :=
  match st with
  | [] => false
  | w :: r => cond (Nat.beq (xkd w.1) k1 || Nat.beq (xkd w.1) k2) (aflt (akp f r1) ls (fun m => rec y dd nx ((r1, w) :: m) r fr mem env fx gh ne)) false
noncomputable def a_inc : Bool :=
  match alk ls r1 with
  | none => false
  | some w => cond (Nat.beq w.1 0 && Nat.blt r2 4294967296) (efrc (eadc w.2.2 (sI r2)) (fun e => aar 0 e (-2147483648) 2147483647 env fx ne (fun v env ne => aflt (akp xk1 r1) ls (fun m => rec y dd nx ((r1, v) :: m) st fr mem env fx gh ne)))) false
/-- a + s b -/
noncomputable def a_add (tag : Nat) (lo hi s : Int) : Bool :=
  match st with
  | b :: a :: r => cond (Nat.beq b.1 tag && Nat.beq a.1 tag) (efrc (eadd a.2.2 b.2.2 s) (fun e => aar tag e lo hi env fx ne (fun v env ne => rec y dd nx ls (v :: r) fr mem env fx gh ne))) false
  | _ => false
noncomputable def a_mul (tag : Nat) (lo hi : Int) : Bool :=
  match st with
  | b :: a :: r => cond (Nat.beq b.1 tag && Nat.beq a.1 tag) (efrc (enor env b.2.2) (fun eb => efrc (enor env a.2.2) (fun ea => match eb.2 with
      | [] => efrc (escl ea eb.1) (fun e => aar tag e lo hi env fx ne (fun v env ne => rec y dd nx ls (v :: r) fr mem env fx gh ne))
      | _ => match ea.2 with
        | [] => efrc (escl eb ea.1) (fun e => aar tag e lo hi env fx ne (fun v env ne => rec y dd nx ls (v :: r) fr mem env fx gh ne))
        | _ => match ebd env [] ea with
          | none => false
          | some ia => match ebd env [] eb with
            | none => false
            | some ib => cond (zle lo (zmul4 ia.1 ia.2 ib.1 ib.2).1 && zle (zmul4 ia.1 ia.2 ib.1 ib.2).2 hi)
                (aany tag (zmul4 ia.1 ia.2 ib.1 ib.2).1 (zmul4 ia.1 ia.2 ib.1 ib.2).2 env ne (fun v env ne => rec y dd nx ls (v :: r) fr mem env fx gh ne))
                (aany tag lo hi env ne (fun v env ne => rec y dd nx ls (v :: r) fr mem env fx gh ne))))) false
  | _ => false
/-- a divisor that isn't 0 -/
noncomputable def a_div (tag : Nat) (lo hi : Int) : Bool :=
  match st with
  | b :: a :: r => cond (Nat.beq b.1 tag && Nat.beq a.1 tag) (match ebd env fx a.2.2 with
      | none => false
      | some ia => match ebd env fx b.2.2 with
        | none => false
        | some ib => cond (zlt 0 ib.1 || zlt ib.2 0)
            (cond (zle 0 ia.1 && zlt 0 ib.1) (aany tag (Int.ediv ia.1 ib.2) (Int.ediv ia.2 ib.1) env ne (fun v env ne => rec y dd nx ls (v :: r) fr mem env fx gh ne))
              (aany tag lo hi env ne (fun v env ne => rec y dd nx ls (v :: r) fr mem env fx gh ne))) false) false
  | _ => false
noncomputable def a_rem (tag : Nat) (fa : Bool) : Bool :=
  match st with
  | b :: a :: r => cond (Nat.beq b.1 tag && Nat.beq a.1 tag) (match ebd env fx a.2.2 with
      | none => false
      | some ia => match ebd env fx b.2.2 with
        | none => false
        | some ib => cond (zlt 0 ib.1 || zlt ib.2 0)
            (zfrc (Int.add (cond (zlt 0 ib.1) ib.2 (Int.neg ib.1)) (-1)) (fun m => aany tag (cond (zle 0 ia.1) 0 (zmx (Int.neg m) ia.1)) (cond (zle ia.2 0) 0 (zmn m ia.2)) env ne (fun v env ne =>
              cond fa (efrc (eadc (eadd v.2.2 b.2.2 (cond (zlt 0 ib.1) (-1) 1)) 1) (fun f1 => efrc (eadc (eadd (escl v.2.2 (-1)) b.2.2 (cond (zlt 0 ib.1) (-1) 1)) 1) (fun f2 => rec y dd nx ls (v :: r) fr mem env (f1 :: f2 :: fx) gh ne)))
                (rec y dd nx ls (v :: r) fr mem env fx gh ne)))) false) false
  | _ => false
/-- both known: the machine's own answer -/
noncomputable def a_bit (F : Int32 → Int32 → Int32) (bd : Int × Int → Int × Int → Int × Int) (fa : Bool) : Bool :=
  match st with
  | b :: a :: r => cond (Nat.beq b.1 0 && Nat.beq a.1 0) (match a.2.2.2, b.2.2.2 with
      | [], [] => zfrc (F (i32 a.2.2.1) (i32 b.2.2.1)).toInt (fun z => rec y dd nx ls ((0, 0, (z, [])) :: r) fr mem env fx gh ne)
      | _, _ => match ebd env fx a.2.2 with
        | none => false
        | some ia => match ebd env fx b.2.2 with
          | none => false
          | some ib => zfrc (bd ia ib).1 (fun lo => zfrc (bd ia ib).2 (fun hi => aany 0 lo hi env ne (fun v env ne => cond (fa && zle 0 ib.1) (efrc (eadd v.2.2 b.2.2 (-1)) (fun f => rec y dd nx ls (v :: r) fr mem env (f :: fx) gh ne)) (rec y dd nx ls (v :: r) fr mem env fx gh ne))))) false
  | _ => false
/-- two longs, of which nothing is known then; or a long and an int -/
noncomputable def a_lng (tb : Nat) : Bool :=
  match st with
  | b :: a :: r => cond (Nat.beq b.1 tb && Nat.beq a.1 2) (afrs (-9223372036854775808) 9223372036854775807 env ne (fun env' ne' => rec y dd nx ls ((2, 0, esym ne) :: r) fr mem env' fx gh ne')) false
  | _ => false
noncomputable def a_cnv (t1 t2 : Nat) (lo hi s : Int) : Bool :=
  match st with
  | a :: r => cond (Nat.beq a.1 t1) (efrc (escl a.2.2 s) (fun e => aar t2 e lo hi env fx ne (fun v env ne => rec y dd nx ls (v :: r) fr mem env fx gh ne))) false
  | _ => false
noncomputable def a_i2l : Bool :=
  match st with
  | a :: r => cond (Nat.beq a.1 0) (rec y dd nx ls ((2, 0, a.2.2) :: r) fr mem env fx gh ne) false
  | _ => false
noncomputable def a_dup : Bool :=
  match st with
  | a :: r => cond (Nat.beq (xkd a.1) 1) false (rec y dd nx ls (a :: a :: r) fr mem env fx gh ne)
  | _ => false
noncomputable def a_pop : Bool :=
  match st with
  | a :: r => cond (Nat.beq (xkd a.1) 1) false (rec y dd nx ls r fr mem env fx gh ne)
  | _ => false
noncomputable def a_pop2 : Bool :=
  match st with
  | a :: r => cond (Nat.beq (xkd a.1) 1) (rec y dd nx ls r fr mem env fx gh ne) false
  | _ => false
noncomputable def a_dup2 : Bool :=
  match st with
  | a :: r => cond (Nat.beq (xkd a.1) 1) (rec y dd nx ls (a :: a :: r) fr mem env fx gh ne)
      (match r with
        | b :: r' => cond (Nat.beq (xkd b.1) 1) false (rec y dd nx ls (a :: b :: a :: b :: r') fr mem env fx gh ne)
        | _ => false)
  | _ => false
noncomputable def a_br (sp : Bool) (o : Jvm.ClassFile.Cond) (e : ae) (r : List av) : Bool :=
  cond (acn2 sp o env fx e (fun env fx => rec y dd tg ls r fr mem env fx gh ne)) (acn2 sp (aneg o) env fx e (fun env fx => rec y dd nx ls r fr mem env fx gh ne)) false
noncomputable def a_icmp (sp : Bool) (o : Jvm.ClassFile.Cond) : Bool :=
  match st with
  | b :: a :: r => cond (Nat.beq b.1 0 && Nat.beq a.1 0) (efrc (eadd a.2.2 b.2.2 (-1)) (fun e => a_br rec nx tg y dd ls fr mem env fx gh ne sp o e r)) false
  | _ => false
noncomputable def a_if (sp : Bool) (o : Jvm.ClassFile.Cond) : Bool :=
  match st with
  | a :: r => cond (Nat.beq a.1 0 || Nat.beq a.1 9) (a_br rec nx tg y dd ls fr mem env fx gh ne sp o a.2.2 r) false
  | _ => false
noncomputable def a_nul (t : Bool) : Bool :=
  match st with
  | a :: r => match xkd a.1 with
    | 2 => rec y dd (cond t nx tg) ls r fr mem env fx gh ne
    | 3 => rec y dd (cond t tg nx) ls r fr mem env fx gh ne
    | _ => false
  | _ => false
noncomputable def a_lcmp : Bool :=
  match st with
  | b :: a :: r => cond (Nat.beq b.1 2 && Nat.beq a.1 2) (efrc (eadd a.2.2 b.2.2 (-1)) (fun e => rec y dd nx ls ((9, 0, e) :: r) fr mem env fx gh ne)) false
  | _ => false
noncomputable def atab (e : ae) (r : List av) : List Int → Int → Bool
  | [], _ => true
  | o :: l, v => cond (cond (zle 0 (Int.add (pc : Int) o)) (efrc (eadc e (Int.neg v)) (fun x => acnd .eq env fx x (fun env fx => rec y dd (Int.add (pc : Int) o).toNat ls r fr mem env fx gh ne))) false) (zfrc (Int.add v 1) (fun w => atab e r l w)) false
noncomputable def a_tab (dflt lo hi : Int) (offs : Array Int) : Bool :=
  match st with
  | a :: r => cond (Nat.beq a.1 0 && zle 0 (Int.add (pc : Int) dflt) && zeq (Int.add (Int.add hi 1) (Int.neg lo)) (offs.size : Int))
      (cond (efrc (eadc a.2.2 (Int.neg lo)) (fun x => acnd .lt env fx x (fun env fx => rec y dd (Int.add (pc : Int) dflt).toNat ls r fr mem env fx gh ne)))
        (cond (efrc (eadc a.2.2 (Int.neg hi)) (fun x => acnd .gt env fx x (fun env fx => rec y dd (Int.add (pc : Int) dflt).toNat ls r fr mem env fx gh ne)))
          (atab rec y dd pc ls fr mem env fx gh ne a.2.2 r offs.toList lo) false) false) false
  | _ => false
noncomputable def alkp (e : ae) (r : List av) (dflt : Int) : List (Int × Int) → aenv → List ae → Bool
  | [], env, fx => cond (zle 0 (Int.add (pc : Int) dflt)) (rec y dd (Int.add (pc : Int) dflt).toNat ls r fr mem env fx gh ne) false
  | q :: l, env, fx => efrc (eadc e (Int.neg q.1)) (fun x =>
      cond (cond (zle 0 (Int.add (pc : Int) q.2)) (acnd .eq env fx x (fun env fx => rec y dd (Int.add (pc : Int) q.2).toNat ls r fr mem env fx gh ne)) false)
        (cond (acnd .lt env fx x (fun env fx => alkp e r dflt l env fx)) (acnd .gt env fx x (fun env fx => alkp e r dflt l env fx)) false) false)
noncomputable def a_lkp (dflt : Int) (ps : Array (Int × Int)) : Bool :=
  match st with
  | a :: r => cond (Nat.beq a.1 0) (alkp rec y dd pc ls fr mem gh ne a.2.2 r dflt ps.toList env fx) false
  | _ => false
noncomputable def a_get : Bool :=
  match st with
  | w :: r => match w.1 with
    | 4 => match xg typs w.2.1 with
      | none => false
      | some T => cond (Nat.beq T.1 r1 && Nat.blt r1 13 && Nat.blt r2 T.2.1) (aload h0 typs HK w.2.1 w.2.2 ((r2 : Int), []) mem env fx gh ne (fun v mem env ne => rec y dd nx ls (v :: r) fr mem env fx gh ne)) false
    | 6 => cond ((Nat.beq w.2.1 1 || Nat.beq w.2.1 3) && Nat.beq r1 98) (rec y dd nx ls ((cond (Nat.beq r2 0) (6, w.2.1 + 1, (0, [])) (0, 0, (0, []))) :: r) fr mem env fx gh ne) false
    | _ => false
  | _ => false
/-- does the value fit a field -/
noncomputable def aftf (tc : Nat) (v : av) : Bool :=
  match tc with
  | 0 => Nat.beq v.1 0
  | 1 => Nat.beq v.1 2
  | 3 => cond (Nat.beq v.1 0) (efit env fx v.2.2 0 1) false
  | _ => false
noncomputable def a_put : Bool :=
  match st with
  | v :: w :: r => cond (Nat.beq w.1 4 && aftf env fx tg v) (match xg typs w.2.1 with
      | none => false
      | some T => cond (Nat.beq T.1 r1 && Nat.blt r1 13 && Nat.blt r2 T.2.1) (match agt T.2.2.2.2 r2 with
        | none => false
        | some u => cond (Nat.beq u.1 v.1) (astor typs HS WOK w.2.1 w.2.2 ((r2 : Int), []) v mem env fx gh ne (fun mem gh => rec y dd nx ls r fr mem env fx gh ne)) false) false) false
  | _ => false
noncomputable def a_len : Bool :=
  match st with
  | w :: r => match w.1 with
    | 4 => match xg typs w.2.1 with
      | none => false
      | some T => cond (Nat.ble 13 T.1) (xfrc T.2.1 (fun n => rec y dd nx ls ((0, 0, ((n : Int), [])) :: r) fr mem env fx gh ne)) false
    | 6 => cond (Nat.beq w.2.1 0) (match asl gh with
      | none => false
      | some s => rec y dd nx ls ((0, 0, esym s) :: r) fr mem env fx gh ne) (cond ((Nat.beq w.2.1 2 || Nat.beq w.2.1 4) && Nat.blt (el w.2.1) 2147483648) (xfrc (el w.2.1) (fun n => rec y dd nx ls ((0, 0, ((n : Int), [])) :: r) fr mem env fx gh ne)) false)
    | _ => false
  | _ => false
noncomputable def a_ald (kd : Nat) : Bool :=
  match st with
  | i :: w :: r => cond (Nat.beq i.1 0) (match w.1 with
    | 4 => match xg typs w.2.1 with
      | none => false
      | some T => cond ((Nat.beq T.1 kd || (Nat.beq kd 20 && Nat.ble 20 T.1)) && Nat.ble 13 T.1 && efit env fx i.2.2 0 (Int.add (T.2.1 : Int) (-1))) (aload h0 typs HK w.2.1 w.2.2 i.2.2 mem env fx gh ne (fun v mem env ne => rec y dd nx ls (v :: r) fr mem env fx gh ne)) false
    | 6 => efrc (enor env i.2.2) (fun n => cond (Nat.beq w.2.1 0) (cond (Nat.beq kd 13) (match asl gh with
        | none => false
        | some s => cond (elef env fx 2 (escl n (-1)) && elef env fx 2 (eadc (eadd n (esym s) (-1)) 1)) (match asg env n gh with
          | some z => rec y dd nx ls ((0, 0, esym z) :: r) fr mem env fx gh ne
          | none => afrs (-2147483648) 2147483647 env ne (fun env' ne' => rec y dd nx ls ((0, 0, esym ne) :: r) fr mem env' fx ((50, ne, 0, n) :: gh) ne')) false) false) (match n.2 with
      | [] => cond ((Nat.beq w.2.1 2 || Nat.beq w.2.1 4) && Nat.beq kd 15 && zle 0 n.1 && Nat.blt n.1.toNat (el w.2.1) && Nat.blt n.1.toNat 2147483648 && Nat.blt ((eb w.2.1).getD n.1.toNat 0) 2147483648) (xfrc ((eb w.2.1).getD n.1.toNat 0) (fun z => rec y dd nx ls ((0, 0, ((z : Int), [])) :: r) fr mem env fx gh ne)) false
      | _ => false))
    | _ => false) false
  | _ => false
noncomputable def a_ast (kd : Nat) : Bool :=
  match st with
  | v :: i :: w :: r => cond (Nat.beq i.1 0 && Nat.beq w.1 4 && Nat.beq v.1 (cond (Nat.beq kd 14) 2 0)) (match xg typs w.2.1 with
      | none => false
      | some T => cond (Nat.beq T.1 kd && Nat.ble 13 T.1 && efit env fx i.2.2 0 (Int.add (T.2.1 : Int) (-1))) (match agt T.2.2.2.2 0 with
        | none => false
        | some u => cond (Nat.beq u.1 v.1) (cond (Nat.beq kd 15)
            (aar 0 v.2.2 (-128) 127 env fx ne (fun v env ne => astor typs HS WOK w.2.1 w.2.2 i.2.2 v mem env fx gh ne (fun mem gh => rec y dd nx ls r fr mem env fx gh ne)))
            (astor typs HS WOK w.2.1 w.2.2 i.2.2 v mem env fx gh ne (fun mem gh => rec y dd nx ls r fr mem env fx gh ne))) false) false) false
  | _ => false
/-- a call: of a method that is walked into, or by what is known of it -/
noncomputable def a_go (z : Nat) (args rest : List av) : Bool :=
  match dd with
  | 0 => false
  | d' + 1 => match xg mi z with
    | none => false
    | some u => cond (Nat.ble (awds rest) 8 && Nat.ble (awds args) u.2.2.2.2.2 && Nat.beq u.1 0 && Nat.beq u.2.1 0)
        (cond (inl z) (rec z d' 0 (aarg 0 args) [] ((y, nx, ls, rest) :: fr) mem env fx gh ne)
          (SM z d' args mem env fx gh ne (fun rv mem env fx gh ne => rec y dd nx ls (match rv with
            | none => rest
            | some v => v :: rest) fr mem env fx gh ne))) false
noncomputable def arcv (kd : Nat) (w : av) : Bool :=
  match w.1 with
  | 4 => (match xg typs w.2.1 with
    | none => false
    | some T => Nat.beq T.1 kd && Nat.blt kd 13)
  | 6 => (Nat.beq w.2.1 1 || Nat.beq w.2.1 3) && Nat.beq kd 98
  | _ => false
noncomputable def a_call (inst : Bool) : Bool :=
  match xg mi r1 with
  | none => false
  | some u => match cpop (cond inst (u.2.2.1 + 1) u.2.2.1) [] st with
    | none => false
    | some q => match q.1 with
      | [] => cond inst false (a_go mi inl SM rec nx y dd ls fr mem env fx gh ne r1 [] q.2)
      | w :: l => cond (!inst || arcv typs u.2.2.2.1 w) (a_go mi inl SM rec nx y dd ls fr mem env fx gh ne r1 (w :: l) q.2) false
noncomputable def a_cpy : Bool :=
  match st with
  | m :: dp :: b :: sp :: a :: r => cond (Nat.beq m.1 0 && Nat.beq dp.1 0 && Nat.beq b.1 4 && Nat.beq sp.1 0 && Nat.beq a.1 4 && Nat.ble (awds r) 8 && Nat.ble 1 dd) (match xg typs a.2.1 with
    | none => false
    | some Ta => match xg typs b.2.1 with
      | none => false
      | some Tb => cond ((Nat.beq Ta.1 13 || Nat.beq Ta.1 14) && Nat.beq Tb.1 Ta.1 && elef env fx 2 (escl m.2.2 (-1)) && elef env fx 2 (escl dp.2.2 (-1)) && elef env fx 2 (escl sp.2.2 (-1)) && elef env fx 2 (eadc (eadd sp.2.2 m.2.2 1) (Int.neg (Ta.2.1 : Int))) && elef env fx 2 (eadc (eadd dp.2.2 m.2.2 1) (Int.neg (Tb.2.1 : Int))) && WOA env fx b.2.1 b.2.2 &&
          Tb.2.2.2.1.all (fun B => B.2.2.all (fun c => Ta.2.2.2.1.any (fun A => cond (zle A.1 0) (cond (zle (Ta.2.1 : Int) (Int.add A.2.1 1)) (A.2.2.any (fun c2 => cond (zle c2.1 0) (cond (zle (Ta.2.1 : Int) (Int.add c2.2.1 1)) (cond (zeq c2.2.2.1 1) (cond (zle c.2.2.2.1 c2.2.2.2.1) (zle c2.2.2.2.2 c.2.2.2.2) false) false) false) false)) false) false))))
        (rec y dd nx ls r fr (mem.filter (fun x => cond (Nat.beq x.1 b.2.1) (ene env x.2.1 b.2.2) true)) env fx (HA env fx mem gh a.2.1 a.2.2 b.2.1 b.2.2 sp.2.2 dp.2.2 m.2.2) ne) false) false
  | _ => false
noncomputable def a_ret (rv : Option av) : Bool :=
  match fr with
  | [] => RT rv mem env fx gh ne
  | q :: l => rec q.1 (dd + 1) q.2.1 q.2.2.1 (match rv with
    | none => q.2.2.2
    | some v => v :: q.2.2.2) l mem env fx gh ne
noncomputable def arok (rt : Nat) (v : av) : Bool :=
  match rt with
  | 1 => true
  | 3 => efit env fx v.2.2 0 1
  | 4 => efit env fx v.2.2 0 65535
  | 5 => efit env fx v.2.2 0 127
  | _ => false
noncomputable def a_vret : Bool :=
  match xg mi y with
  | none => false
  | some q => match q.2.2.2.2.1, st with
    | 0, [] => a_ret RT rec dd fr mem env fx gh ne none
    | _, _ => false
noncomputable def a_iret : Bool :=
  match xg mi y with
  | none => false
  | some q => match st with
    | [w] => cond (Nat.beq w.1 0 && arok env fx q.2.2.2.2.1 w) (a_ret RT rec dd fr mem env fx gh ne (some w)) false
    | _ => false
noncomputable def a_lret : Bool :=
  match xg mi y with
  | none => false
  | some q => match st with
    | [w] => cond (Nat.beq w.1 2 && Nat.beq q.2.2.2.2.1 2) (a_ret RT rec dd fr mem env fx gh ne (some w)) false
    | _ => false
end AStep
def bdand (a b : Int × Int) : Int × Int := cond (zle 0 b.1) (0, cond (zle 0 a.1) (zmn a.2 b.2) b.2) (cond (zle 0 a.1) (0, a.2) (-2147483648, 2147483647))
def bdor (a b : Int × Int) : Int × Int := cond (zle 0 a.1 && zle 0 b.1) (0, ((2 ^ (Nat.log2 (zmx a.2 b.2).toNat + 1) - 1 : Nat) : Int)) (-2147483648, 2147483647)
def bdshl (a b : Int × Int) : Int × Int := cond (zle 0 a.1 && (zle 0 b.1 && (zle b.2 30 && zle (Int.mul a.2 ((2 ^ b.2.toNat : Nat) : Int)) 2147483647))) (Int.mul a.1 ((2 ^ b.1.toNat : Nat) : Int), Int.mul a.2 ((2 ^ b.2.toNat : Nat) : Int)) (-2147483648, 2147483647)
def bdshr (a _b : Int × Int) : Int × Int := cond (zle 0 a.1) (0, a.2) (a.1, zmx a.2 (-1))
def bdful (_a _b : Int × Int) : Int × Int := (-2147483648, 2147483647)
