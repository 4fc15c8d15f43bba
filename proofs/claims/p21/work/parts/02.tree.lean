section
/-! trees: a leaf keeps its own number, so that reading behind a write needs no order -/
noncomputable def xg {α : Type} (t : Lean.RArray (Nat × α)) (k : Nat) : Option α :=
  Lean.RArray.rec (motive := fun _ => Option α) (fun q => cond (Nat.beq q.1 k) (some q.2) none) (fun p _ _ gl gr => cond (Nat.ble p k) gr gl) t
theorem xg_leaf {α : Type} (q : Nat × α) (k : Nat) : xg (.leaf q) k = cond (Nat.beq q.1 k) (some q.2) none := rfl
theorem xg_branch {α : Type} (p : Nat) (a b : Lean.RArray (Nat × α)) (k : Nat) : xg (.branch p a b) k = cond (Nat.ble p k) (xg b k) (xg a k) := rfl
noncomputable def xw {α : Type} (t : Lean.RArray (Nat × α)) (k : Nat) (v : α) : Lean.RArray (Nat × α) :=
  Lean.RArray.rec (motive := fun _ => Lean.RArray (Nat × α)) (fun q => .leaf (cond (Nat.beq q.1 k) (k, v) q)) (fun p a b sa sb => cond (Nat.ble p k) (.branch p a sb) (.branch p sa b)) t
theorem xw_leaf {α : Type} (q : Nat × α) (k : Nat) (v : α) : xw (.leaf q) k v = .leaf (cond (Nat.beq q.1 k) (k, v) q) := rfl
theorem xw_branch {α : Type} (p : Nat) (a b : Lean.RArray (Nat × α)) (k : Nat) (v : α) : xw (.branch p a b) k v = cond (Nat.ble p k) (.branch p a (xw b k v)) (.branch p (xw a k v) b) := rfl
/-- the same by a continuation: what it is given is written out -/
noncomputable def xsK {α β : Type} (t : Lean.RArray (Nat × α)) (k : Nat) (v : α) (c : Lean.RArray (Nat × α) → β) : β :=
  Lean.RArray.rec (motive := fun _ => (Lean.RArray (Nat × α) → β) → β) (fun q c => c (.leaf (cond (Nat.beq q.1 k) (k, v) q))) (fun p a b sa sb c => cond (Nat.ble p k) (sb (fun b' => c (.branch p a b'))) (sa (fun a' => c (.branch p a' b)))) t c
theorem xsK_eq {α β : Type} (t : Lean.RArray (Nat × α)) (k : Nat) (v : α) : ∀ (c : Lean.RArray (Nat × α) → β), xsK t k v c = c (xw t k v) := by
  induction t with
  | leaf q => intro c; rfl
  | branch p a b iha ihb =>
    intro c
    rw [xw_branch]
    show cond (Nat.ble p k) (xsK b k v (fun b' => c (.branch p a b'))) (xsK a k v (fun a' => c (.branch p a' b))) = _
    rw [iha, ihb]
    cases Nat.ble p k <;> rfl
theorem xg_self {α : Type} (t : Lean.RArray (Nat × α)) (k : Nat) (v w : α) (h : xg t k = some w) : xg (xw t k v) k = some v := by
  induction t with
  | leaf q =>
    rw [xg_leaf] at h
    rw [xw_leaf, xg_leaf]
    cases hb : Nat.beq q.1 k with
    | false => rw [hb] at h; cases h
    | true => simp
  | branch p a b iha ihb =>
    rw [xg_branch] at h
    rw [xw_branch]
    cases hb : Nat.ble p k with
    | true => rw [hb] at h; simp only [cond_true] at h ⊢; rw [xg_branch, hb]; exact ihb h
    | false => rw [hb] at h; simp only [cond_false] at h ⊢; rw [xg_branch, hb]; exact iha h
theorem xg_other {α : Type} (t : Lean.RArray (Nat × α)) (k j : Nat) (v : α) (h : j ≠ k) : xg (xw t k v) j = xg t j := by
  induction t with
  | leaf q =>
    rw [xw_leaf, xg_leaf, xg_leaf]
    cases hb : Nat.beq q.1 k with
    | false => rfl
    | true =>
      have e : q.1 = k := Nat.eq_of_beq_eq_true hb
      have n1 : Nat.beq k j = false := by
        cases hx : Nat.beq k j with
        | false => rfl
        | true => exact absurd (Nat.eq_of_beq_eq_true hx).symm h
      simp only [cond_true, e, n1, cond_false]
  | branch p a b iha ihb =>
    rw [xw_branch]
    cases hb : Nat.ble p k with
    | true =>
      simp only [cond_true]
      rw [xg_branch, xg_branch, ihb]
    | false =>
      simp only [cond_false]
      rw [xg_branch, xg_branch, iha]
/-- all leaves -/
noncomputable def xall {α : Type} (t : Lean.RArray (Nat × α)) (f : Nat → α → Bool) : Bool :=
  Lean.RArray.rec (motive := fun _ => Bool) (fun q => f q.1 q.2) (fun _ _ _ a b => cond a b false) t
theorem xall_get {α : Type} (t : Lean.RArray (Nat × α)) (f : Nat → α → Bool) (h : xall t f = true) (k : Nat) (v : α) (hg : xg t k = some v) : f k v = true := by
  induction t with
  | leaf q =>
    rw [xg_leaf] at hg
    cases hb : Nat.beq q.1 k with
    | false => rw [hb] at hg; cases hg
    | true =>
      rw [hb] at hg
      have e : q.1 = k := Nat.eq_of_beq_eq_true hb
      have e2 : q.2 = v := Option.some.inj hg
      rw [← e, ← e2]
      exact h
  | branch p a b iha ihb =>
    have h' : cond (xall a f) (xall b f) false = true := h
    rw [xg_branch] at hg
    cases ha : xall a f with
    | false => rw [ha] at h'; cases h'
    | true =>
      rw [ha] at h'
      cases hb : Nat.ble p k with
      | true => rw [hb] at hg; exact ihb h' hg
      | false => rw [hb] at hg; exact iha ha hg
/-- a tree of n places from lo on, all v -/
def xmk {α : Type} (v : α) : Nat → Nat → Nat → Lean.RArray (Nat × α)
  | 0, lo, _ => .leaf (lo, v)
  | f + 1, lo, n => cond (Nat.ble n 1) (.leaf (lo, v)) (.branch (lo + n / 2) (xmk v f lo (n / 2)) (xmk v f (lo + n / 2) (n - n / 2)))
theorem xmk_get {α : Type} (v : α) : ∀ (f lo n k : Nat), n ≤ 2 ^ f → lo ≤ k → k < lo + n → xg (xmk v f lo n) k = some v
  | 0, lo, n, k, hn, h1, h2 => by
    have e : lo = k := by simp at hn; omega
    show cond (Nat.beq lo k) (some v) none = some v
    rw [e, Nat.beq_refl]; rfl
  | f + 1, lo, n, k, hn, h1, h2 => by
    show xg (cond (Nat.ble n 1) (.leaf (lo, v)) (.branch (lo + n / 2) (xmk v f lo (n / 2)) (xmk v f (lo + n / 2) (n - n / 2)))) k = some v
    have hp : 2 ^ (f + 1) = 2 ^ f + 2 ^ f := by rw [Nat.pow_succ]; omega
    cases hb : Nat.ble n 1 with
    | true =>
      have : n ≤ 1 := Nat.le_of_ble_eq_true hb
      have e : lo = k := by omega
      show cond (Nat.beq lo k) (some v) none = some v
      rw [e, Nat.beq_refl]; rfl
    | false =>
      have hn1 : ¬ n ≤ 1 := fun q => by rw [Nat.ble_eq_true_of_le q] at hb; cases hb
      simp only [cond_false]
      rw [xg_branch]
      cases hc : Nat.ble (lo + n / 2) k with
      | true =>
        have := Nat.le_of_ble_eq_true hc
        exact xmk_get v f (lo + n / 2) (n - n / 2) k (by omega) (by omega) (by omega)
      | false =>
        have : ¬ lo + n / 2 ≤ k := fun q => by rw [Nat.ble_eq_true_of_le q] at hc; cases hc
        exact xmk_get v f lo (n / 2) k (by omega) h1 (by omega)
end
section
/-! The path explorer: one frame at a time, ints of the script by intervals, all else concrete.
A value is a tag and a number. 0: int constant; 1: the script's int at that place; 2: long constant; 3: the script's int, widened; 4: a cell of ours; 5: null; 6: a cell that was there before; 7: some int; 8: some long; 10: a reference or null. -/
abbrev xv : Type := Nat × Nat
abbrev xct : Type := Lean.RArray (Nat × xv)
abbrev xcell : Type := Nat × Nat × xct
abbrev xheap : Type := Lean.RArray (Nat × xcell)
abbrev xbox : Type := List (Nat × Nat)
/-- instruction, next pc, target, two numbers -/
abbrev xins : Type := Instr × Nat × Nat × Nat × Nat
abbrev xleaf : Type := xbox × xheap × Nat × Option xv
abbrev xR : Type := Option (List xleaf)
/-- method, depth, pc, locals, stack, box, heap, cells in it, cells and slots made -/
abbrev xF : Type := Nat → Nat → Nat → List (Nat × xv) → List xv → xbox → xheap → Nat → Nat → Nat → xR
noncomputable def xfrc {β : Type} (n : Nat) (c : Nat → β) : β := Nat.rec (motive := fun _ => β) (c 0) (fun m _ => c (Nat.succ m)) n
theorem xfrc_eq {β : Type} (n : Nat) (c : Nat → β) : xfrc n c = c n := by cases n <;> rfl
/-- 0 int, 1 long, 2 a reference, 3 null -/
def xkd : Nat → Nat
  | 0 => 0
  | 1 => 0
  | 2 => 1
  | 3 => 1
  | 4 => 2
  | 5 => 3
  | 6 => 2
  | 7 => 0
  | 8 => 1
  | 10 => 4
  | _ => 9
/-- the number of an int, 2^63 added -/
def xoi (n : Nat) : Nat := cond (Nat.ble 2147483648 (n % 4294967296)) (n % 4294967296 + 9223372032559808512) (n % 4294967296 + 9223372036854775808)
def xol (n : Nat) : Nat := (n + 9223372036854775808) % 18446744073709551616
def xbg : xbox → Nat → Nat × Nat
  | [], _ => (0, 18446744073709551616)
  | q :: _, 0 => q
  | _ :: l, i + 1 => xbg l i
def xbs : xbox → Nat → Nat → Nat → xbox
  | [], _, _, _ => []
  | _ :: l, 0, lo, hi => (lo, hi) :: l
  | q :: l, i + 1, lo, hi => q :: xbs l i lo hi
def xrg (bx : xbox) (w : xv) : Nat × Nat :=
  match w.1 with
  | 0 => (xoi w.2, xoi w.2)
  | 1 => xbg bx w.2
  | 2 => (xol w.2, xol w.2)
  | 3 => xbg bx w.2
  | _ => (0, 18446744073709551616)
/-- an int that is known -/
def xci (bx : xbox) (w : xv) : Option Nat :=
  match w.1 with
  | 0 => some w.2
  | 1 => cond (Nat.beq (xbg bx w.2).1 (xbg bx w.2).2) (some ((xbg bx w.2).1 % 4294967296)) none
  | _ => none
def xcl (bx : xbox) (w : xv) : Option Nat :=
  match w.1 with
  | 2 => some w.2
  | 3 => cond (Nat.beq (xbg bx w.2).1 (xbg bx w.2).2) (some (((xbg bx w.2).1 + 9223372036854775808) % 18446744073709551616)) none
  | _ => none
def xapp (a b : xR) : xR :=
  match a with
  | none => none
  | some x => match b with
    | none => none
    | some y => some (x ++ y)
def xbind (k : xleaf → xR) : List xleaf → xR
  | [] => some []
  | q :: l => xapp (k q) (xbind k l)
/-- the place i of the script is below o, o, or above -/
def xspl (k : xbox → xR) (bx : xbox) (i o : Nat) : xR :=
  xapp (cond (Nat.ble o (xbg bx i).1) (some []) (k (xbs bx i (xbg bx i).1 (o - 1))))
    (xapp (k (xbs bx i o o)) (cond (Nat.ble (xbg bx i).2 o) (some []) (k (xbs bx i (o + 1) (xbg bx i).2))))
/-- what a compare of two intervals says -/
def xdec (o : Jvm.ClassFile.Cond) (a b : Nat × Nat) : Option Bool :=
  match o with
  | .eq => cond (Nat.beq a.1 a.2 && Nat.beq b.1 b.2 && Nat.beq a.1 b.1) (some true) (cond (Nat.blt a.2 b.1 || Nat.blt b.2 a.1) (some false) none)
  | .ne => cond (Nat.beq a.1 a.2 && Nat.beq b.1 b.2 && Nat.beq a.1 b.1) (some false) (cond (Nat.blt a.2 b.1 || Nat.blt b.2 a.1) (some true) none)
  | .lt => cond (Nat.blt a.2 b.1) (some true) (cond (Nat.ble b.2 a.1) (some false) none)
  | .ge => cond (Nat.blt a.2 b.1) (some false) (cond (Nat.ble b.2 a.1) (some true) none)
  | .gt => cond (Nat.blt b.2 a.1) (some true) (cond (Nat.ble a.2 b.1) (some false) none)
  | .le => cond (Nat.blt b.2 a.1) (some false) (cond (Nat.ble a.2 b.1) (some true) none)
/-- where to cut -/
def xpt (bx : xbox) (a b : xv) : Option (Nat × Nat) :=
  cond ((Nat.beq a.1 1 || Nat.beq a.1 3) && Nat.beq (xrg bx b).1 (xrg bx b).2) (some (a.2, (xrg bx b).1))
    (cond ((Nat.beq b.1 1 || Nat.beq b.1 3) && Nat.beq (xrg bx a).1 (xrg bx a).2) (some (b.2, (xrg bx a).1)) none)
/-- a branch: k of 'taken' -/
def xbr (o : Jvm.ClassFile.Cond) (bx : xbox) (a b : xv) (k : Bool → xR) (again : xbox → xR) : xR :=
  match xdec o (xrg bx a) (xrg bx b) with
  | some t => k t
  | none => match xpt bx a b with
    | some q => xspl again bx q.1 q.2
    | none => xapp (k true) (k false)
/-- a local -/
def xlk : List (Nat × xv) → Nat → Option xv
  | [], _ => none
  | q :: l, i => cond (Nat.beq q.1 i) (some q.2) (xlk l i)
/-- what is left of the locals when a word, or two, are stored at i -/
def xk1 (i : Nat) (q : Nat × xv) : Bool := !(Nat.beq q.1 i) && !(Nat.beq (q.1 + 1) i && Nat.beq (xkd q.2.1) 1)
def xk2 (i : Nat) (q : Nat × xv) : Bool := !(Nat.beq q.1 i) && (!(Nat.beq q.1 (i + 1)) && !(Nat.beq (q.1 + 1) i && Nat.beq (xkd q.2.1) 1))
def xfl {β : Type} (f : Nat × xv → Bool) : List (Nat × xv) → (List (Nat × xv) → β) → β
  | [], c => c []
  | q :: l, c => cond (f q) (xfl f l (fun m => c (q :: m))) (xfl f l c)
theorem xfl_eq {β : Type} (f : Nat × xv → Bool) : ∀ (l : List (Nat × xv)) (c : List (Nat × xv) → β), xfl f l c = c (l.filter f)
  | [], c => rfl
  | q :: l, c => by
    show cond (f q) (xfl f l (fun m => c (q :: m))) (xfl f l c) = _
    rw [xfl_eq f l, xfl_eq f l, List.filter_cons]
    cases f q <;> rfl
/-- the last n of the stack, in their order, and the rest -/
def xpop : Nat → List xv → List xv → Option (List xv × List xv)
  | 0, acc, st => some (acc, st)
  | _ + 1, _, [] => none
  | n + 1, acc, w :: st => xpop n (w :: acc) st
def xarg : Nat → List xv → List (Nat × xv)
  | _, [] => []
  | i, w :: l => (i, w) :: xarg (cond (Nat.beq (xkd w.1) 1) (i + 2) (i + 1)) l
def xwds : List xv → Nat
  | [] => 0
  | w :: l => cond (Nat.beq (xkd w.1) 1) 2 1 + xwds l
def xnu (x : Int32) : Nat := x.toBitVec.toNat
def xnl (x : Int64) : Nat := x.toBitVec.toNat
/-- a cell of n places, all of the type's first value: 0 int, 1 long, 2 reference -/
def xd0 : Nat → xv
  | 0 => (0, 0)
  | 1 => (2, 0)
  | _ => (5, 0)
/-- contents by a list -/
noncomputable def xsl {β : Type} : List xv → Nat → xct → (xct → β) → β
  | [], _, t, c => c t
  | w :: l, i, t, c => xsK t i w (fun t' => xsl l (i + 1) t' c)
/-- n places of t1 from sp on into t2 from dp on -/
noncomputable def xcp {β : Type} (t1 : xct) : Nat → Nat → Nat → xct → (xct → Option β) → Option β
  | 0, _, _, t2, c => c t2
  | n + 1, sp, dp, t2, c => match xg t1 sp with
    | none => none
    | some w => xsK t2 dp w (fun t => xcp t1 n (sp + 1) (dp + 1) t c)
end
section
/-! The step. cd: the code by method; mi: a method's cells, slots, arguments (without the receiver), receiver's kind, kind of answer (0 void, 1 int, 2 long, 3 boolean, 4 char, 5 byte), words of locals; df: a fresh object of a kind; el: lengths of arrays that were there before; eb: bytes of the text. -/
abbrev xmi : Type := Lean.RArray (Nat × (Nat × Nat × Nat × Nat × Nat × Nat))
abbrev xcd : Type := Lean.RArray (Nat × Lean.RArray (Nat × xins))
abbrev xdf : Type := Lean.RArray (Nat × (Nat × xct))
def xfit (tc : Nat) (w : xv) : Bool :=
  match tc with
  | 0 => Nat.beq (xkd w.1) 0
  | 1 => Nat.beq (xkd w.1) 1
  | 2 => Nat.beq (xkd w.1) 2 || Nat.beq (xkd w.1) 3
  | 3 => Nat.beq w.1 0 && Nat.ble w.2 1
  | _ => false
def xrok (rt : Nat) (w : xv) : Bool :=
  match rt with
  | 1 => Nat.beq (xkd w.1) 0
  | 3 => Nat.beq w.1 0 && Nat.ble w.2 1
  | 4 => Nat.beq w.1 0 && Nat.blt w.2 65536
  | 5 => Nat.beq w.1 0 && Nat.blt w.2 128
  | _ => false
/-- a byte's word -/
def xb8 (w : xv) : xv := match w.1 with
  | 0 => (0, xnu (nI w.2).toInt8.toInt32)
  | _ => (7, 0)
section Step
variable (mi : xmi) (df : xdf) (el : Nat → Nat) (eb : Nat → List Nat) (rec : xF)
variable (nx tg r1 r2 y d pc : Nat) (ls : List (Nat × xv)) (st : List xv) (bx : xbox) (h : xheap) (n c s : Nat)
noncomputable def x_ld (k1 k2 : Nat) : xR :=
  match xlk ls r1 with
  | none => none
  | some w => cond (Nat.beq (xkd w.1) k1 || Nat.beq (xkd w.1) k2) (rec y d nx ls (w :: st) bx h n c s) none
noncomputable def x_st (k1 k2 : Nat) (f : Nat → Nat × xv → Bool) : xR :=
  match st with
  | [] => none
  | w :: r => cond (Nat.beq (xkd w.1) k1 || Nat.beq (xkd w.1) k2) (xfl (f r1) ls (fun m => rec y d nx ((r1, w) :: m) r bx h n c s)) none
noncomputable def x_inc : xR :=
  match xlk ls r1 with
  | none => none
  | some w => match xci bx w with
    | none => none
    | some x => xfl (xk1 r1) ls (fun m => xfrc ((x + r2) % 4294967296) (fun z => rec y d nx ((r1, (0, z)) :: m) st bx h n c s))
noncomputable def x_bi (f : Nat → Nat → Nat) : xR :=
  match st with
  | b :: a :: r => cond (Nat.beq (xkd b.1) 0 && Nat.beq (xkd a.1) 0)
      (match xci bx a with
        | none => rec y d nx ls ((7, 0) :: r) bx h n c s
        | some x => match xci bx b with
          | none => rec y d nx ls ((7, 0) :: r) bx h n c s
          | some z => xfrc (f x z) (fun q => rec y d nx ls ((0, q) :: r) bx h n c s)) none
  | _ => none
/-- a divisor that is known, and isn't 0 -/
noncomputable def x_dv (f : Nat → Nat → Nat) : xR :=
  match st with
  | b :: a :: r => match xci bx a with
    | none => none
    | some x => match xci bx b with
      | none => none
      | some z => cond (Nat.beq (z % 4294967296) 0) none (xfrc (f x z) (fun q => rec y d nx ls ((0, q) :: r) bx h n c s))
  | _ => none
noncomputable def x_bl (f : Nat → Nat → Nat) : xR :=
  match st with
  | b :: a :: r => cond (Nat.beq (xkd b.1) 1 && Nat.beq (xkd a.1) 1)
      (match xcl bx a with
        | none => rec y d nx ls ((8, 0) :: r) bx h n c s
        | some x => match xcl bx b with
          | none => rec y d nx ls ((8, 0) :: r) bx h n c s
          | some z => xfrc (f x z) (fun q => rec y d nx ls ((2, q) :: r) bx h n c s)) none
  | _ => none
noncomputable def x_dl (f : Nat → Nat → Nat) : xR :=
  match st with
  | b :: a :: r => match xcl bx a with
    | none => none
    | some x => match xcl bx b with
      | none => none
      | some z => cond (Nat.beq (z % 18446744073709551616) 0) none (xfrc (f x z) (fun q => rec y d nx ls ((2, q) :: r) bx h n c s))
  | _ => none
/-- a long shifted by an int -/
noncomputable def x_sl (f : Nat → Nat → Nat) : xR :=
  match st with
  | b :: a :: r => cond (Nat.beq (xkd b.1) 0 && Nat.beq (xkd a.1) 1)
      (match xcl bx a with
        | none => rec y d nx ls ((8, 0) :: r) bx h n c s
        | some x => match xci bx b with
          | none => rec y d nx ls ((8, 0) :: r) bx h n c s
          | some z => xfrc (f x z) (fun q => rec y d nx ls ((2, q) :: r) bx h n c s)) none
  | _ => none
noncomputable def x_ui (f : Nat → Nat) : xR :=
  match st with
  | a :: r => cond (Nat.beq (xkd a.1) 0)
      (match xci bx a with
        | none => rec y d nx ls ((7, 0) :: r) bx h n c s
        | some x => xfrc (f x) (fun q => rec y d nx ls ((0, q) :: r) bx h n c s)) none
  | _ => none
noncomputable def x_i2l : xR :=
  match st with
  | a :: r => match a.1 with
    | 0 => xfrc (xnl (nI a.2).toInt64) (fun q => rec y d nx ls ((2, q) :: r) bx h n c s)
    | 1 => rec y d nx ls ((3, a.2) :: r) bx h n c s
    | 7 => rec y d nx ls ((8, 0) :: r) bx h n c s
    | _ => none
  | _ => none
noncomputable def x_l2i : xR :=
  match st with
  | a :: r => cond (Nat.beq (xkd a.1) 1)
      (match xcl bx a with
        | none => rec y d nx ls ((7, 0) :: r) bx h n c s
        | some x => xfrc (x % 4294967296) (fun q => rec y d nx ls ((0, q) :: r) bx h n c s)) none
  | _ => none
noncomputable def x_dup : xR :=
  match st with
  | a :: r => cond (Nat.beq (xkd a.1) 1) none (rec y d nx ls (a :: a :: r) bx h n c s)
  | _ => none
noncomputable def x_pop : xR :=
  match st with
  | a :: r => cond (Nat.beq (xkd a.1) 1) none (rec y d nx ls r bx h n c s)
  | _ => none
noncomputable def x_pop2 : xR :=
  match st with
  | a :: r => cond (Nat.beq (xkd a.1) 1) (rec y d nx ls r bx h n c s) none
  | _ => none
noncomputable def x_dup2 : xR :=
  match st with
  | a :: r => cond (Nat.beq (xkd a.1) 1) (rec y d nx ls (a :: a :: r) bx h n c s)
      (match r with
        | b :: r' => cond (Nat.beq (xkd b.1) 1) none (rec y d nx ls (a :: b :: a :: b :: r') bx h n c s)
        | _ => none)
  | _ => none
noncomputable def x_icmp (o : Jvm.ClassFile.Cond) : xR :=
  match st with
  | b :: a :: r => cond (Nat.beq (xkd b.1) 0 && Nat.beq (xkd a.1) 0)
      (xbr o bx a b (fun t => rec y d (cond t tg nx) ls r bx h n c s) (fun bx' => rec y d pc ls st bx' h n c s)) none
  | _ => none
noncomputable def x_if (o : Jvm.ClassFile.Cond) : xR :=
  match st with
  | a :: r => cond (Nat.beq (xkd a.1) 0)
      (xbr o bx a (0, 0) (fun t => rec y d (cond t tg nx) ls r bx h n c s) (fun bx' => rec y d pc ls st bx' h n c s)) none
  | _ => none
noncomputable def x_nul (t : Bool) : xR :=
  match st with
  | a :: r => match xkd a.1 with
    | 2 => rec y d (cond t nx tg) ls r bx h n c s
    | 3 => rec y d (cond t tg nx) ls r bx h n c s
    | _ => none
  | _ => none
noncomputable def x_lcmp : xR :=
  match st with
  | b :: a :: r => cond (Nat.beq (xkd b.1) 1 && Nat.beq (xkd a.1) 1)
      (match xdec .lt (xrg bx a) (xrg bx b) with
        | some true => rec y d nx ls ((0, 4294967295) :: r) bx h n c s
        | some false => (match xdec .gt (xrg bx a) (xrg bx b) with
          | some true => rec y d nx ls ((0, 1) :: r) bx h n c s
          | some false => rec y d nx ls ((0, 0) :: r) bx h n c s
          | none => (match xpt bx a b with
            | some q => xspl (fun bx' => rec y d pc ls st bx' h n c s) bx q.1 q.2
            | none => rec y d nx ls ((7, 0) :: r) bx h n c s))
        | none => (match xpt bx a b with
          | some q => xspl (fun bx' => rec y d pc ls st bx' h n c s) bx q.1 q.2
          | none => rec y d nx ls ((7, 0) :: r) bx h n c s)) none
  | _ => none
/-- where a table goes -/
def xts (dflt lo hi : Int) (offs : Array Int) (pc : Nat) (z : Int) : Option Nat :=
  if z < lo ∨ hi < z then (if 0 ≤ (pc : Int) + dflt then some ((pc : Int) + dflt).toNat else none)
  else match offs[(z - lo).toNat]? with
    | none => none
    | some o => if 0 ≤ (pc : Int) + o then some ((pc : Int) + o).toNat else none
def xz (x : Nat) : Int := (nI x).toInt
noncomputable def x_tab (dflt lo hi : Int) (offs : Array Int) : xR :=
  match st with
  | a :: r => match xci bx a with
    | some x => (match xts dflt lo hi offs pc (xz x) with
      | some t => rec y d t ls r bx h n c s
      | none => none)
    | none => cond (Nat.beq a.1 1)
        (cond (Nat.blt (xbg bx a.2).2 (lo + 9223372036854775808).toNat || Nat.blt (hi + 9223372036854775808).toNat (xbg bx a.2).1)
          (if 0 ≤ (pc : Int) + dflt then rec y d ((pc : Int) + dflt).toNat ls r bx h n c s else none)
          (xspl (fun bx' => rec y d pc ls st bx' h n c s) bx a.2 (cond (Nat.blt (xbg bx a.2).1 (lo + 9223372036854775808).toNat) (lo + 9223372036854775808).toNat (xbg bx a.2).1))) none
  | _ => none
noncomputable def x_lkp (dflt : Int) (ps : Array (Int × Int)) : xR :=
  match st with
  | a :: r => match xci bx a with
    | none => none
    | some x => if 0 ≤ (pc : Int) + Op.lookupswitch.offset ps.toList dflt (xz x) then rec y d ((pc : Int) + Op.lookupswitch.offset ps.toList dflt (xz x)).toNat ls r bx h n c s else none
  | _ => none
noncomputable def x_get : xR :=
  match st with
  | w :: r => cond (Nat.beq w.1 4)
      (match xg h w.2 with
        | none => none
        | some q => cond (Nat.beq q.1 r1 && Nat.blt r1 13)
            (match xg q.2.2 r2 with
              | none => none
              | some v => rec y d nx ls (v :: r) bx h n c s) none)
      (cond (Nat.beq w.1 6 && (Nat.beq w.2 1 || Nat.beq w.2 3) && Nat.beq r1 98) (rec y d nx ls ((cond (Nat.beq r2 0) (6, w.2 + 1) (0, 0)) :: r) bx h n c s) none)
  | _ => none
noncomputable def x_put : xR :=
  match st with
  | v :: w :: r => cond (Nat.beq w.1 4 && xfit tg v)
      (match xg h w.2 with
        | none => none
        | some q => cond (Nat.beq q.1 r1 && Nat.blt r2 q.2.1)
            (match xg q.2.2 r2 with
              | none => none
              | some _ => xsK q.2.2 r2 v (fun t => xsK h w.2 (q.1, q.2.1, t) (fun h' => rec y d nx ls r bx h' n c s))) none) none
  | _ => none
/-- a new cell -/
noncomputable def x_cell (k m : Nat) (t : xct) (r : List xv) : xR :=
  match xg mi y with
  | none => none
  | some q => cond (Nat.blt c q.1 && Nat.ble (s + m) q.2.1)
      (match xg h n with
        | none => none
        | some _ => xsK h n (k, m, t) (fun h' => xfrc (n + 1) (fun n' => xfrc (c + 1) (fun c' => xfrc (s + m) (fun s' => rec y d nx ls ((4, n) :: r) bx h' n' c' s'))))) none
noncomputable def x_new : xR :=
  match xg df r1 with
  | none => none
  | some q => x_cell mi rec nx y d ls bx h n c s r1 q.1 q.2 st
noncomputable def x_arr (dk : Nat) : xR :=
  match st with
  | w :: r => match xci bx w with
    | none => none
    | some m => cond (Nat.ble m 1048576) (x_cell mi rec nx y d ls bx h n c s r1 m (xmk (xd0 dk) 20 0 m) r) none
  | _ => none
noncomputable def x_len : xR :=
  match st with
  | w :: r => cond (Nat.beq w.1 4)
      (match xg h w.2 with
        | none => none
        | some q => cond (Nat.ble 13 q.1) (rec y d nx ls ((0, q.2.1) :: r) bx h n c s) none)
      (cond (Nat.beq w.1 6 && (Nat.beq w.2 0 || (Nat.beq w.2 2 || Nat.beq w.2 4))) (rec y d nx ls ((0, el w.2) :: r) bx h n c s) none)
  | _ => none
/-- an index that must be known: else the script's place is cut -/
noncomputable def x_ix (i : xv) (k : Nat → xR) : xR :=
  match xci bx i with
  | some x => cond (Nat.blt x 2147483648) (k x) none
  | none => cond (Nat.beq i.1 1) (xspl (fun bx' => rec y d pc ls st bx' h n c s) bx i.2 (xbg bx i.2).1) none
noncomputable def x_ald (kd : Nat) : xR :=
  match st with
  | i :: w :: r => x_ix rec y d pc ls st bx h n c s i (fun x =>
      cond (Nat.beq w.1 4)
        (match xg h w.2 with
          | none => none
          | some q => cond ((Nat.beq q.1 kd || (Nat.beq kd 20 && Nat.ble 20 q.1)) && Nat.blt x q.2.1)
              (match xg q.2.2 x with
                | none => none
                | some v => rec y d nx ls (v :: r) bx h n c s) none)
        (cond (Nat.beq w.1 6 && Nat.beq w.2 0 && Nat.beq kd 13 && Nat.blt x (el 0)) (rec y d nx ls ((1, x) :: r) bx h n c s)
          (cond (Nat.beq w.1 6 && (Nat.beq w.2 2 || Nat.beq w.2 4) && Nat.beq kd 15 && Nat.blt x (el w.2)) (rec y d nx ls ((0, (eb w.2).getD x 0) :: r) bx h n c s) none)))
  | _ => none
noncomputable def x_ast (kd : Nat) : xR :=
  match st with
  | v :: i :: w :: r => x_ix rec y d pc ls st bx h n c s i (fun x =>
      cond (Nat.beq w.1 4 && xfit (cond (Nat.beq kd 14) 1 0) v)
        (match xg h w.2 with
          | none => none
          | some q => cond (Nat.beq q.1 kd && Nat.blt x q.2.1)
              (xsK q.2.2 x (cond (Nat.beq kd 15) (xb8 v) v) (fun t => xsK h w.2 (q.1, q.2.1, t) (fun h' => rec y d nx ls r bx h' n c s))) none) none)
  | _ => none
noncomputable def x_aas : xR :=
  match st with
  | v :: i :: w :: r => x_ix rec y d pc ls st bx h n c s i (fun x =>
      cond (Nat.beq w.1 4 && Nat.beq v.1 4)
        (match xg h w.2 with
          | none => none
          | some q => match xg h v.2 with
            | none => none
            | some e => cond (Nat.blt e.1 13 && Nat.beq q.1 (20 + e.1) && Nat.blt x q.2.1)
              (xsK q.2.2 x v (fun t => xsK h w.2 (q.1, q.2.1, t) (fun h' => rec y d nx ls r bx h' n c s))) none) none)
  | _ => none
/-- a call -/
noncomputable def x_go (z : Nat) (args rest : List xv) : xR :=
  match d with
  | 0 => none
  | d' + 1 => match xg mi y with
    | none => none
    | some q => match xg mi z with
      | none => none
      | some u => cond (Nat.ble (xwds rest) 8 && Nat.ble (xwds args) u.2.2.2.2.2 && Nat.ble (c + u.1) q.1 && Nat.ble (s + u.2.1) q.2.1)
          (match rec z d' 0 (xarg 0 args) [] bx h n 0 0 with
            | none => none
            | some L => xfrc (c + u.1) (fun c' => xfrc (s + u.2.1) (fun s' => xbind (fun l => rec y d nx ls (match l.2.2.2 with
                | none => rest
                | some w => w :: rest) l.1 l.2.1 l.2.2.1 c' s') L))) none
/-- is the receiver of kind k -/
noncomputable def xrcv (k : Nat) (h : xheap) (w : xv) : Bool :=
  cond (Nat.beq w.1 4)
    (match xg h w.2 with
      | none => false
      | some q => Nat.beq q.1 k && Nat.blt k 13)
    (Nat.beq w.1 6 && (Nat.beq w.2 1 || Nat.beq w.2 3) && Nat.beq k 98)
noncomputable def x_call (inst virt : Bool) : xR :=
  match xg mi r1 with
  | none => none
  | some u => match xpop (cond inst (u.2.2.1 + 1) u.2.2.1) [] st with
    | none => none
    | some q => match q.1 with
      | [] => cond inst none (x_go mi rec nx y d ls bx h n c s r1 [] q.2)
      | w :: l => cond (!inst || cond virt (xrcv u.2.2.2.1 h w) (Nat.beq w.1 4)) (x_go mi rec nx y d ls bx h n c s r1 (w :: l) q.2) none
noncomputable def x_oin : xR :=
  match st with
  | w :: r => cond (Nat.beq w.1 4 && Nat.ble (xwds r) 8 && Nat.ble 1 d) (rec y d nx ls r bx h n c s) none
  | _ => none
noncomputable def x_cpy : xR :=
  match st with
  | m :: dp :: b :: sp :: a :: r => match xci bx m with
    | none => none
    | some m => match xci bx dp with
      | none => none
      | some dp => match xci bx sp with
        | none => none
        | some sp => cond (Nat.beq a.1 4 && Nat.beq b.1 4 && Nat.ble (xwds r) 8 && Nat.ble 1 d)
            (match xg h a.2 with
              | none => none
              | some qa => match xg h b.2 with
                | none => none
                | some qb => cond ((Nat.beq qa.1 13 || Nat.beq qa.1 14) && Nat.beq qb.1 qa.1 && Nat.ble (sp + m) qa.2.1 && Nat.ble (dp + m) qb.2.1 && Nat.blt (sp + m) 2147483648 && Nat.blt (dp + m) 2147483648)
                    (xcp qa.2.2 m sp dp qb.2.2 (fun t => xsK h b.2 (qb.1, qb.2.1, t) (fun h' => rec y d nx ls r bx h' n c s))) none) none
  | _ => none
noncomputable def x_ret : xR :=
  match xg mi y with
  | none => none
  | some q => match q.2.2.2.2.1 with
    | 0 => match st with
      | [] => some [(bx, h, n, none)]
      | _ => none
    | _ => none
noncomputable def x_iret : xR :=
  match xg mi y with
  | none => none
  | some q => match st with
    | [w] => cond (xrok q.2.2.2.2.1 w) (some [(bx, h, n, some w)]) none
    | _ => none
noncomputable def x_lret : xR :=
  match xg mi y with
  | none => none
  | some q => match q.2.2.2.2.1 with
    | 2 => match st with
      | [w] => cond (Nat.beq (xkd w.1) 1) (some [(bx, h, n, some w)]) none
      | _ => none
    | _ => none
end Step
noncomputable def xex (mi : xmi) (df : xdf) (el : Nat → Nat) (eb : Nat → List Nat) (rec : xF) (ins : Instr) (nx tg r1 r2 y d pc : Nat) (ls : List (Nat × xv)) (st : List xv) (bx : xbox) (h : xheap) (n c s : Nat) : xR :=
  match ins with
  | .iconst _ => rec y d nx ls ((0, r1) :: st) bx h n c s
  | .bipush _ => rec y d nx ls ((0, r1) :: st) bx h n c s
  | .sipush _ => rec y d nx ls ((0, r1) :: st) bx h n c s
  | .lconst _ => rec y d nx ls ((2, r1) :: st) bx h n c s
  | .ldc _ => cond (Nat.beq r2 0) (rec y d nx ls ((0, r1) :: st) bx h n c s) (cond (Nat.beq r2 1) (rec y d nx ls ((6, 1) :: st) bx h n c s) (cond (Nat.beq r2 2) (rec y d nx ls ((6, 3) :: st) bx h n c s) none))
  | .ldc_w _ => rec y d nx ls ((0, r1) :: st) bx h n c s
  | .ldc2_w _ => rec y d nx ls ((2, r1) :: st) bx h n c s
  | .aconst_null => rec y d nx ls ((5, 0) :: st) bx h n c s
  | .iload _ => x_ld rec nx r1 y d ls st bx h n c s 0 0
  | .iload_n _ => x_ld rec nx r1 y d ls st bx h n c s 0 0
  | .lload _ => x_ld rec nx r1 y d ls st bx h n c s 1 1
  | .lload_n _ => x_ld rec nx r1 y d ls st bx h n c s 1 1
  | .aload _ => x_ld rec nx r1 y d ls st bx h n c s 2 3
  | .aload_n _ => x_ld rec nx r1 y d ls st bx h n c s 2 3
  | .istore _ => x_st rec nx r1 y d ls st bx h n c s 0 0 xk1
  | .istore_n _ => x_st rec nx r1 y d ls st bx h n c s 0 0 xk1
  | .lstore _ => x_st rec nx r1 y d ls st bx h n c s 1 1 xk2
  | .lstore_n _ => x_st rec nx r1 y d ls st bx h n c s 1 1 xk2
  | .astore _ => x_st rec nx r1 y d ls st bx h n c s 2 2 xk1
  | .astore_n _ => x_st rec nx r1 y d ls st bx h n c s 2 2 xk1
  | .iinc _ _ => x_inc rec nx r1 r2 y d ls st bx h n c s
  | .iadd => x_bi rec nx y d ls st bx h n c s (fun a b => (a + b) % 4294967296)
  | .isub => x_bi rec nx y d ls st bx h n c s (fun a b => (a + (4294967296 - b % 4294967296)) % 4294967296)
  | .imul => x_bi rec nx y d ls st bx h n c s (fun a b => (a * b) % 4294967296)
  | .iand => x_bi rec nx y d ls st bx h n c s (fun a b => xnu (nI a &&& nI b))
  | .ior => x_bi rec nx y d ls st bx h n c s (fun a b => xnu (nI a ||| nI b))
  | .ishl => x_bi rec nx y d ls st bx h n c s (fun a b => xnu (nI a <<< (nI b &&& 31)))
  | .ishr => x_bi rec nx y d ls st bx h n c s (fun a b => xnu (nI a >>> (nI b &&& 31)))
  | .idiv => x_dv rec nx y d ls st bx h n c s (fun a b => xnu (nI a / nI b))
  | .irem => x_dv rec nx y d ls st bx h n c s (fun a b => xnu (nI a - nI a / nI b * nI b))
  | .ladd => x_bl rec nx y d ls st bx h n c s (fun a b => xnl (lN a + lN b))
  | .lsub => x_bl rec nx y d ls st bx h n c s (fun a b => xnl (lN a - lN b))
  | .lmul => x_bl rec nx y d ls st bx h n c s (fun a b => xnl (lN a * lN b))
  | .land => x_bl rec nx y d ls st bx h n c s (fun a b => xnl (lN a &&& lN b))
  | .lor => x_bl rec nx y d ls st bx h n c s (fun a b => xnl (lN a ||| lN b))
  | .ldiv => x_dl rec nx y d ls st bx h n c s (fun a b => xnl (lN a / lN b))
  | .lrem => x_dl rec nx y d ls st bx h n c s (fun a b => xnl (lN a - lN a / lN b * lN b))
  | .lshl => x_sl rec nx y d ls st bx h n c s (fun a b => xnl (lN a <<< ((nI b).toInt64 &&& 63)))
  | .lshr => x_sl rec nx y d ls st bx h n c s (fun a b => xnl (lN a >>> ((nI b).toInt64 &&& 63)))
  | .i2l => x_i2l rec nx y d ls st bx h n c s
  | .l2i => x_l2i rec nx y d ls st bx h n c s
  | .i2b => x_ui rec nx y d ls st bx h n c s (fun a => xnu (nI a).toInt8.toInt32)
  | .ineg => x_ui rec nx y d ls st bx h n c s (fun a => xnu (-nI a))
  | .iushr => x_bi rec nx y d ls st bx h n c s (fun a b => xnu ((nI a).toUInt32 >>> ((nI b).toUInt32 &&& Int32.toUInt32 31)).toInt32)
  | .i2s => x_ui rec nx y d ls st bx h n c s (fun a => xnu (nI a).toInt16.toInt32)
  | .i2c => x_ui rec nx y d ls st bx h n c s (fun a => a % 65536)
  | .dup => x_dup rec nx y d ls st bx h n c s
  | .pop => x_pop rec nx y d ls st bx h n c s
  | .dup2 => x_dup2 rec nx y d ls st bx h n c s
  | .pop2 => x_pop2 rec nx y d ls st bx h n c s
  | .goto _ => rec y d tg ls st bx h n c s
  | .if_icmp o _ => x_icmp rec nx tg y d pc ls st bx h n c s o
  | .ifCond o _ => x_if rec nx tg y d pc ls st bx h n c s o
  | .ifnull _ => x_nul rec nx tg y d ls st bx h n c s true
  | .ifnonnull _ => x_nul rec nx tg y d ls st bx h n c s false
  | .lcmp => x_lcmp rec nx y d pc ls st bx h n c s
  | .tableswitch a b e f => x_tab rec y d pc ls st bx h n c s a b e f
  | .lookupswitch a b => x_lkp rec y d pc ls st bx h n c s a b
  | .getfield _ => x_get rec nx r1 r2 y d ls st bx h n c s
  | .putfield _ => x_put rec nx tg r1 r2 y d ls st bx h n c s
  | .getstatic _ => cond (Nat.beq r1 0) (rec y d nx ls ((0, 1) :: st) bx h n c s) (rec y d nx ls ((10, 0) :: st) bx h n c s)
  | .new _ => x_new mi df rec nx r1 y d ls st bx h n c s
  | .newarray _ => x_arr mi rec nx r1 y d ls st bx h n c s r2
  | .anewarray _ => x_arr mi rec nx r1 y d ls st bx h n c s 2
  | .arraylength => x_len el rec nx y d ls st bx h n c s
  | .iaload => x_ald el eb rec nx y d pc ls st bx h n c s 13
  | .laload => x_ald el eb rec nx y d pc ls st bx h n c s 14
  | .baload => x_ald el eb rec nx y d pc ls st bx h n c s 15
  | .aaload => x_ald el eb rec nx y d pc ls st bx h n c s 20
  | .iastore => x_ast rec nx y d pc ls st bx h n c s 13
  | .lastore => x_ast rec nx y d pc ls st bx h n c s 14
  | .bastore => x_ast rec nx y d pc ls st bx h n c s 15
  | .aastore => x_aas rec nx y d pc ls st bx h n c s
  | .invokevirtual _ => x_call mi rec nx r1 y d ls st bx h n c s true true
  | .invokestatic _ => cond (Nat.beq r2 8) (x_cpy rec nx y d ls st bx h n c s) (x_call mi rec nx r1 y d ls st bx h n c s false false)
  | .invokespecial _ => cond (Nat.beq r2 6) (x_oin rec nx y d ls st bx h n c s) (x_call mi rec nx r1 y d ls st bx h n c s true false)
  | .return_ => x_ret mi y st bx h n
  | .ireturn => x_iret mi y st bx h n
  | .lreturn => x_lret mi y st bx h n
  | _ => none
noncomputable def xstep (cd : xcd) (mi : xmi) (df : xdf) (el : Nat → Nat) (eb : Nat → List Nat) (rec : xF) : xF := fun y d pc ls st bx h n c s =>
  match xg cd y with
  | none => none
  | some t => match xg t pc with
    | none => none
    | some e => xex mi df el eb rec e.1 e.2.1 e.2.2.1 e.2.2.2.1 e.2.2.2.2 y d pc ls st bx h n c s
noncomputable def xrun (cd : xcd) (mi : xmi) (df : xdf) (el : Nat → Nat) (eb : Nat → List Nat) (f : Nat) : xF :=
  Nat.rec (motive := fun _ => xF) (fun _ _ _ _ _ _ _ _ _ _ => none) (fun _ r => xstep cd mi df el eb r) f
end
section
/-! What the explorer's values, cells and frames say of the machine's -/
section Rel
variable (sv : Nat → Int32) (ex : Nat → Nat)
def xoff (z : Int) : Nat := (z + 9223372036854775808).toNat
def xden (as : List Nat) (w : xv) (v : Value) : Prop :=
  match w.1 with
  | 0 => v = .int (nI w.2)
  | 1 => v = .int (sv w.2)
  | 2 => v = .long (lN w.2)
  | 3 => v = .long (sv w.2).toInt64
  | 4 => ∃ a, as[w.2]? = some a ∧ v = .ref a
  | 5 => v = .null
  | 6 => v = .ref (ex w.2)
  | 7 => ∃ x, v = .int x
  | 8 => ∃ x, v = .long x
  | 10 => v = .null ∨ ∃ a, v = .ref a
  | _ => False
def xle (as as' : List Nat) : Prop := ∀ (k a : Nat), as[k]? = some a → as'[k]? = some a
theorem xle.rf (as : List Nat) : xle as as := fun _ _ h => h
theorem xle.tr {a b c : List Nat} (h : xle a b) (k : xle b c) : xle a c := fun i x q => k i x (h i x q)
theorem xle.push (as : List Nat) (q : Nat) : xle as (as ++ [q]) := fun i x h => by
  have hl := (List.getElem?_eq_some_iff.mp h).1
  rw [List.getElem?_append_left hl]; exact h
theorem xden.mono {as as' : List Nat} (hl : xle as as') : ∀ {w : xv} {v : Value}, xden sv ex as w v → xden sv ex as' w v
  | (0, _), _, h => h
  | (1, _), _, h => h
  | (2, _), _, h => h
  | (3, _), _, h => h
  | (4, n), v, h => by
    obtain ⟨a, h1, h2⟩ : ∃ a : Nat, as[n]? = some a ∧ v = .ref a := h
    exact ⟨a, hl _ _ h1, h2⟩
  | (5, _), _, h => h
  | (6, _), _, h => h
  | (7, _), _, h => h
  | (8, _), _, h => h
  | (9, _), _, h => h.elim
  | (10, _), _, h => h
  | (_ + 11, _), _, h => h.elim
theorem xden.int {as : List Nat} : ∀ {w : xv} {v : Value}, xden sv ex as w v → xkd w.1 = 0 → ∃ x, v = .int x
  | (0, _), _, h, _ => ⟨_, h⟩
  | (1, _), _, h, _ => ⟨_, h⟩
  | (2, _), _, _, k => by cases k
  | (3, _), _, _, k => by cases k
  | (4, _), _, _, k => by cases k
  | (5, _), _, _, k => by cases k
  | (6, _), _, _, k => by cases k
  | (7, _), _, h, _ => h
  | (8, _), _, _, k => by cases k
  | (9, _), _, h, _ => h.elim
  | (10, _), _, _, k => by cases k
  | (_ + 11, _), _, h, _ => h.elim
theorem xden.long {as : List Nat} : ∀ {w : xv} {v : Value}, xden sv ex as w v → xkd w.1 = 1 → ∃ x, v = .long x
  | (0, _), _, _, k => by cases k
  | (1, _), _, _, k => by cases k
  | (2, _), _, h, _ => ⟨_, h⟩
  | (3, _), _, h, _ => ⟨_, h⟩
  | (4, _), _, _, k => by cases k
  | (5, _), _, _, k => by cases k
  | (6, _), _, _, k => by cases k
  | (7, _), _, _, k => by cases k
  | (8, _), _, h, _ => h
  | (9, _), _, h, _ => h.elim
  | (10, _), _, _, k => by cases k
  | (_ + 11, _), _, h, _ => h.elim
theorem xden.ref {as : List Nat} : ∀ {w : xv} {v : Value}, xden sv ex as w v → xkd w.1 = 2 → ∃ x, v = .ref x
  | (0, _), _, _, k => by cases k
  | (1, _), _, _, k => by cases k
  | (2, _), _, _, k => by cases k
  | (3, _), _, _, k => by cases k
  | (4, n), v, h, _ => by
    obtain ⟨a, h1, h2⟩ : ∃ a : Nat, as[n]? = some a ∧ v = .ref a := h
    exact ⟨a, h2⟩
  | (5, _), _, _, k => by cases k
  | (6, _), _, h, _ => ⟨_, h⟩
  | (7, _), _, _, k => by cases k
  | (8, _), _, _, k => by cases k
  | (9, _), _, h, _ => h.elim
  | (10, _), _, _, k => by cases k
  | (_ + 11, _), _, h, _ => h.elim
theorem xden.nul {as : List Nat} : ∀ {w : xv} {v : Value}, xden sv ex as w v → xkd w.1 = 3 → v = .null
  | (0, _), _, _, k => by cases k
  | (1, _), _, _, k => by cases k
  | (2, _), _, _, k => by cases k
  | (3, _), _, _, k => by cases k
  | (4, _), _, _, k => by cases k
  | (5, _), _, h, _ => h
  | (6, _), _, _, k => by cases k
  | (7, _), _, _, k => by cases k
  | (8, _), _, _, k => by cases k
  | (9, _), _, h, _ => h.elim
  | (10, _), _, _, k => by cases k
  | (_ + 11, _), _, h, _ => h.elim
theorem xden.cat {as : List Nat} : ∀ {w : xv} {v : Value}, xden sv ex as w v → v.category = cond (Nat.beq (xkd w.1) 1) 2 1
  | (0, _), _, h => by rw [show _ = _ from h]; rfl
  | (1, _), _, h => by rw [show _ = _ from h]; rfl
  | (2, _), _, h => by rw [show _ = _ from h]; rfl
  | (3, _), _, h => by rw [show _ = _ from h]; rfl
  | (4, n), v, h => by
    obtain ⟨a, h1, h2⟩ : ∃ a : Nat, as[n]? = some a ∧ v = .ref a := h
    rw [h2]; rfl
  | (5, _), _, h => by rw [show _ = _ from h]; rfl
  | (6, _), _, h => by rw [show _ = _ from h]; rfl
  | (7, n), v, h => by
    obtain ⟨x, h⟩ : ∃ x : Int32, v = .int x := h
    rw [h]; rfl
  | (8, n), v, h => by
    obtain ⟨x, h⟩ : ∃ x : Int64, v = .long x := h
    rw [h]; rfl
  | (9, _), _, h => h.elim
  | (10, n), v, h => by
    rcases (show v = .null ∨ ∃ a, v = .ref a from h) with h | ⟨a, h⟩ <;> rw [h] <;> rfl
  | (_ + 11, _), _, h => h.elim
theorem xden.own {as : List Nat} {w : xv} {v : Value} (h : xden sv ex as w v) (hw : w.1 = 4) : ∃ a, as[w.2]? = some a ∧ v = .ref a := by
  obtain ⟨t, n⟩ := w
  cases hw
  exact h
theorem xden.ext {as : List Nat} {w : xv} {v : Value} (h : xden sv ex as w v) (hw : w.1 = 6) : v = .ref (ex w.2) := by
  obtain ⟨t, n⟩ := w
  cases hw
  exact h
/-! numbers -/
theorem x32 (n : Nat) : nI (n % 4294967296) = nI n := by
  apply Int32.toBitVec_inj.mp
  show BitVec.ofNat 32 (n % 4294967296) = BitVec.ofNat 32 n
  apply BitVec.eq_of_toNat_eq
  simp
theorem x64 (n : Nat) : lN (n % 18446744073709551616) = lN n := by
  apply Int64.toBitVec_inj.mp
  show BitVec.ofNat 64 (n % 18446744073709551616) = BitVec.ofNat 64 n
  apply BitVec.eq_of_toNat_eq
  simp
theorem nI_xnu (x : Int32) : nI (xnu x) = x := by
  apply Int32.toBitVec_inj.mp
  show BitVec.ofNat 32 x.toBitVec.toNat = x.toBitVec
  simp
theorem lN_xnl (x : Int64) : lN (xnl x) = x := by
  apply Int64.toBitVec_inj.mp
  show BitVec.ofNat 64 x.toBitVec.toNat = x.toBitVec
  simp
theorem nI_int (n : Nat) : (nI n).toInt = if n % 4294967296 < 2147483648 then ((n % 4294967296 : Nat) : Int) else ((n % 4294967296 : Nat) : Int) - 4294967296 := by
  show (BitVec.ofNat 32 n).toInt = _
  rw [BitVec.toInt_eq_toNat_cond, BitVec.toNat_ofNat]
  simp only [show (2 : Nat) ^ 32 = 4294967296 from rfl]
  split <;> split <;> omega
theorem lN_int (n : Nat) : (lN n).toInt = if n % 18446744073709551616 < 9223372036854775808 then ((n % 18446744073709551616 : Nat) : Int) else ((n % 18446744073709551616 : Nat) : Int) - 18446744073709551616 := by
  show (BitVec.ofNat 64 n).toInt = _
  rw [BitVec.toInt_eq_toNat_cond, BitVec.toNat_ofNat]
  simp only [show (2 : Nat) ^ 64 = 18446744073709551616 from rfl]
  split <;> split <;> omega
theorem xoi_ok (n : Nat) : xoi n = xoff (nI n).toInt := by
  rw [nI_int]
  unfold xoi xoff
  have h := Nat.mod_lt n (show 0 < 4294967296 by decide)
  generalize n % 4294967296 = k at h ⊢
  cases hb : Nat.ble 2147483648 k with
  | true =>
    have := Nat.le_of_ble_eq_true hb
    simp only [cond_true]
    rw [if_neg (by omega)]; omega
  | false =>
    have : ¬ 2147483648 ≤ k := fun q => by rw [Nat.ble_eq_true_of_le q] at hb; cases hb
    simp only [cond_false]
    rw [if_pos (by omega)]; omega
theorem xol_ok (n : Nat) : xol n = xoff (lN n).toInt := by
  rw [lN_int]
  unfold xol xoff
  split <;> omega
theorem i32_lo (x : Int32) : -2147483648 ≤ x.toInt ∧ x.toInt < 2147483648 := by
  have h1 := x.toBitVec.toInt_lt
  have h2 := x.toBitVec.le_toInt
  simp at h1 h2
  exact ⟨h2, h1⟩
theorem i64_lo (x : Int64) : -9223372036854775808 ≤ x.toInt ∧ x.toInt < 9223372036854775808 := by
  have h1 := x.toBitVec.toInt_lt
  have h2 := x.toBitVec.le_toInt
  simp at h1 h2
  exact ⟨h2, h1⟩
theorem xoff_int (x : Int32) : (xoff x.toInt : Int) = x.toInt + 9223372036854775808 := by
  have := i32_lo x
  unfold xoff; omega
theorem xoff_long (x : Int64) : (xoff x.toInt : Int) = x.toInt + 9223372036854775808 := by
  have := i64_lo x
  unfold xoff; omega
theorem xoff_wide (x : Int32) : xoff x.toInt ≤ 18446744073709551616 := by
  have := i32_lo x
  have := xoff_int x
  omega
theorem xoff_wideL (x : Int64) : xoff x.toInt ≤ 18446744073709551616 := by
  have := i64_lo x
  have := xoff_long x
  omega
theorem x_i2lI (x : Int32) : x.toInt64.toInt = x.toInt := by simp
def xbf (f : Nat → Nat) (bx : xbox) : Prop := ∀ i, (xbg bx i).1 ≤ f i ∧ f i ≤ (xbg bx i).2
def xbxo (bx : xbox) : Prop := xbf (fun i => xoff (sv i).toInt) bx
theorem xbf_set : ∀ (bx : xbox) (f : Nat → Nat) (i lo hi : Nat), xbf f bx → lo ≤ f i → f i ≤ hi → xbf f (xbs bx i lo hi)
  | [], f, i, lo, hi, h, _, _ => h
  | q :: l, f, 0, lo, hi, h, h1, h2 => fun j => by
    cases j with
    | zero => exact ⟨h1, h2⟩
    | succ j => exact h (j + 1)
  | q :: l, f, i + 1, lo, hi, h, h1, h2 => fun j => by
    cases j with
    | zero => exact h 0
    | succ j => exact xbf_set l (fun k => f (k + 1)) i lo hi (fun k => h (k + 1)) h1 h2 j
theorem xrg_int {as : List Nat} {bx : xbox} (hb : xbxo sv bx) : ∀ {w : xv} {x : Int32}, xden sv ex as w (.int x) → (xrg bx w).1 ≤ xoff x.toInt ∧ xoff x.toInt ≤ (xrg bx w).2
  | (0, n), x, h => by
    have e : x = nI n := Value.int.inj h
    rw [e, ← xoi_ok]; exact ⟨Nat.le_refl _, Nat.le_refl _⟩
  | (1, n), x, h => by
    have e : x = sv n := Value.int.inj h
    rw [e]; exact hb n
  | (2, n), x, h => by cases h
  | (3, n), x, h => by cases h
  | (4, n), x, h => by
    obtain ⟨a, _, h2⟩ := h
    cases h2
  | (5, n), x, h => by cases h
  | (6, n), x, h => by cases h
  | (7, n), x, _ => ⟨Nat.zero_le _, xoff_wide x⟩
  | (8, n), x, _ => ⟨Nat.zero_le _, xoff_wide x⟩
  | (9, n), x, h => h.elim
  | (10, n), x, h => by
    rcases h with h | ⟨a, h⟩ <;> cases h
  | (_ + 11, n), x, h => h.elim
theorem xrg_long {as : List Nat} {bx : xbox} (hb : xbxo sv bx) : ∀ {w : xv} {x : Int64}, xden sv ex as w (.long x) → (xrg bx w).1 ≤ xoff x.toInt ∧ xoff x.toInt ≤ (xrg bx w).2
  | (0, n), x, h => by cases h
  | (1, n), x, h => by cases h
  | (2, n), x, h => by
    have e : x = lN n := Value.long.inj h
    rw [e, ← xol_ok]; exact ⟨Nat.le_refl _, Nat.le_refl _⟩
  | (3, n), x, h => by
    have e : x = (sv n).toInt64 := Value.long.inj h
    rw [e, x_i2lI]; exact hb n
  | (4, n), x, h => by
    obtain ⟨a, _, h2⟩ := h
    cases h2
  | (5, n), x, h => by cases h
  | (6, n), x, h => by cases h
  | (7, n), x, _ => ⟨Nat.zero_le _, xoff_wideL x⟩
  | (8, n), x, _ => ⟨Nat.zero_le _, xoff_wideL x⟩
  | (9, n), x, h => h.elim
  | (10, n), x, h => by
    rcases h with h | ⟨a, h⟩ <;> cases h
  | (_ + 11, n), x, h => h.elim
theorem x_one (x : Int32) {o : Nat} (h1 : o ≤ xoff x.toInt) (h2 : xoff x.toInt ≤ o) : x = nI (o % 4294967296) := by
  apply Int32.toInt_inj.mp
  have hb := i32_lo x
  have := xoff_int x
  rw [nI_int]
  split <;> omega
theorem x_oneL (x : Int32) {o : Nat} (h1 : o ≤ xoff x.toInt) (h2 : xoff x.toInt ≤ o) : x.toInt64 = lN ((o + 9223372036854775808) % 18446744073709551616) := by
  apply Int64.toInt_inj.mp
  have hb := i32_lo x
  have := xoff_int x
  rw [x_i2lI, lN_int]
  split <;> omega
theorem xci_ok {as : List Nat} {bx : xbox} (hb : xbxo sv bx) : ∀ {w : xv} {v : Value} {n : Nat}, xden sv ex as w v → xci bx w = some n → v = .int (nI n)
  | (0, _), v, n, h, k => by cases k; exact h
  | (1, i), v, n, h, k => by
    have k' : cond (Nat.beq (xbg bx i).1 (xbg bx i).2) (some ((xbg bx i).1 % 4294967296)) none = some n := k
    cases hq : Nat.beq (xbg bx i).1 (xbg bx i).2 with
    | false => rw [hq] at k'; cases k'
    | true =>
      rw [hq] at k'
      have e := Nat.eq_of_beq_eq_true hq
      have hr := hb i
      rw [show v = _ from h, x_one (sv i) (o := (xbg bx i).1) hr.1 (by rw [e]; exact hr.2)]
      rw [← Option.some.inj k']
  | (2, _), v, n, h, k => by cases k
  | (3, _), v, n, h, k => by cases k
  | (4, _), v, n, h, k => by cases k
  | (5, _), v, n, h, k => by cases k
  | (6, _), v, n, h, k => by cases k
  | (7, _), v, n, h, k => by cases k
  | (8, _), v, n, h, k => by cases k
  | (9, _), v, n, h, k => by cases k
  | (10, _), v, n, h, k => by cases k
  | (_ + 11, _), v, n, h, k => by cases k
theorem xcl_ok {as : List Nat} {bx : xbox} (hb : xbxo sv bx) : ∀ {w : xv} {v : Value} {n : Nat}, xden sv ex as w v → xcl bx w = some n → v = .long (lN n)
  | (0, _), v, n, h, k => by cases k
  | (1, _), v, n, h, k => by cases k
  | (2, _), v, n, h, k => by cases k; exact h
  | (3, i), v, n, h, k => by
    have k' : cond (Nat.beq (xbg bx i).1 (xbg bx i).2) (some (((xbg bx i).1 + 9223372036854775808) % 18446744073709551616)) none = some n := k
    cases hq : Nat.beq (xbg bx i).1 (xbg bx i).2 with
    | false => rw [hq] at k'; cases k'
    | true =>
      rw [hq] at k'
      have e := Nat.eq_of_beq_eq_true hq
      have hr := hb i
      rw [show v = _ from h, x_oneL (sv i) (o := (xbg bx i).1) hr.1 (by rw [e]; exact hr.2)]
      rw [← Option.some.inj k']
  | (4, _), v, n, h, k => by cases k
  | (5, _), v, n, h, k => by cases k
  | (6, _), v, n, h, k => by cases k
  | (7, _), v, n, h, k => by cases k
  | (8, _), v, n, h, k => by cases k
  | (9, _), v, n, h, k => by cases k
  | (10, _), v, n, h, k => by cases k
  | (_ + 11, _), v, n, h, k => by cases k
/-! stacks and locals -/
def xstR (as : List Nat) : List xv → List Value → Prop
  | [], [] => True
  | w :: l, v :: m => xden sv ex as w v ∧ xstR as l m
  | _, _ => False
def xlsR (as : List Nat) : List (Nat × xv) → List (Nat × Value) → Prop
  | [], [] => True
  | q :: l, r :: m => r.1 = q.1 ∧ xden sv ex as q.2 r.2 ∧ xlsR as l m
  | _, _ => False
theorem xstR.mono {as as' : List Nat} (hl : xle as as') : ∀ {a : List xv} {b : List Value}, xstR sv ex as a b → xstR sv ex as' a b
  | [], [], _ => trivial
  | _ :: _, _ :: _, h => ⟨xden.mono sv ex hl h.1, xstR.mono hl h.2⟩
  | [], _ :: _, h => h.elim
  | _ :: _, [], h => h.elim
theorem xlsR.mono {as as' : List Nat} (hl : xle as as') : ∀ {a : List (Nat × xv)} {b : List (Nat × Value)}, xlsR sv ex as a b → xlsR sv ex as' a b
  | [], [], _ => trivial
  | _ :: _, _ :: _, h => ⟨h.1, xden.mono sv ex hl h.2.1, xlsR.mono hl h.2.2⟩
  | [], _ :: _, h => h.elim
  | _ :: _, [], h => h.elim
theorem xlk_ok {as : List Nat} {i : Nat} {w : xv} : ∀ {a : List (Nat × xv)} {b : List (Nat × Value)}, xlsR sv ex as a b → xlk a i = some w → ∃ (k : Nat) (v : Value), b[k]? = some (i, v) ∧ xden sv ex as w v
  | [], _, _, h => by cases h
  | _ :: _, [], h, _ => h.elim
  | q :: l, r :: m, h, hk => by
    have hk' : cond (Nat.beq q.1 i) (some q.2) (xlk l i) = some w := hk
    cases hb : Nat.beq q.1 i with
    | true =>
      rw [hb] at hk'
      have e := Nat.eq_of_beq_eq_true hb
      have e2 : q.2 = w := Option.some.inj hk'
      refine ⟨0, r.2, ?_, by rw [← e2]; exact h.2.1⟩
      show some r = some (i, r.2)
      rw [← e, ← h.1]
    | false =>
      rw [hb] at hk'
      obtain ⟨k, v, h1, h2⟩ := xlk_ok h.2.2 hk'
      exact ⟨k + 1, v, h1, h2⟩
theorem xlsR.filter {as : List Nat} {f : Nat × xv → Bool} {g : Nat × Value → Bool} (hfg : ∀ (i : Nat) (w : xv) (v : Value), xden sv ex as w v → f (i, w) = g (i, v)) : ∀ {a : List (Nat × xv)} {b : List (Nat × Value)}, xlsR sv ex as a b → xlsR sv ex as (a.filter f) (b.filter g)
  | [], [], _ => trivial
  | [], _ :: _, h => h.elim
  | _ :: _, [], h => h.elim
  | (i, w) :: l, (j, v) :: m, h => by
    obtain ⟨h1, h2, h3⟩ := h
    have h1' : j = i := h1
    subst h1'
    have e := hfg j w v h2
    rw [List.filter_cons, List.filter_cons, e]
    cases g (j, v) with
    | true => exact ⟨rfl, h2, xlsR.filter hfg h3⟩
    | false => exact xlsR.filter hfg h3
theorem xnb (a b : Nat) : Nat.beq a b = (a == b) := by
  rw [Bool.eq_iff_iff, beq_iff_eq]
  exact ⟨Nat.eq_of_beq_eq_true, fun h => by rw [h]; exact Nat.beq_refl b⟩
theorem xk1_ok {as : List Nat} (i : Nat) : ∀ (j : Nat) (w : xv) (v : Value), xden sv ex as w v → xk1 i (j, w) = (fun q : Nat × Value => !(q.1 == i) && !(q.1 + 1 == i && q.2.category == 2)) (j, v) := by
  intro j w v h
  have hc := xden.cat sv ex h
  show (!(Nat.beq j i) && !(Nat.beq (j + 1) i && Nat.beq (xkd w.1) 1)) = (!(j == i) && !(j + 1 == i && v.category == 2))
  rw [hc, xnb j i, xnb (j + 1) i]
  cases Nat.beq (xkd w.1) 1 <;> rfl
theorem xk2_ok {as : List Nat} (i : Nat) : ∀ (j : Nat) (w : xv) (v : Value), xden sv ex as w v → xk2 i (j, w) = (fun q : Nat × Value => !(q.1 == i) && (!(q.1 == i + 1) && !(q.1 + 1 == i && q.2.category == 2))) (j, v) := by
  intro j w v h
  have hc := xden.cat sv ex h
  show (!(Nat.beq j i) && (!(Nat.beq j (i + 1)) && !(Nat.beq (j + 1) i && Nat.beq (xkd w.1) 1))) = (!(j == i) && (!(j == i + 1) && !(j + 1 == i && v.category == 2)))
  rw [hc, xnb j i, xnb (j + 1) i, xnb j (i + 1)]
  cases Nat.beq (xkd w.1) 1 <;> rfl
theorem xwds_ok {as : List Nat} : ∀ {a : List xv} {b : List Value}, xstR sv ex as a b → (b.map fun v => v.category).sum = xwds a
  | [], [], _ => rfl
  | [], _ :: _, h => h.elim
  | _ :: _, [], h => h.elim
  | w :: l, v :: m, h => by
    rw [List.map_cons, List.sum_cons, xwds_ok h.2, xden.cat sv ex h.1]
    rfl
theorem xarg_ok {as : List Nat} : ∀ {a : List xv} {b : List Value} (i : Nat), xstR sv ex as a b → xlsR sv ex as (xarg i a) (lv_args i b)
  | [], [], _, _ => trivial
  | [], _ :: _, _, h => h.elim
  | _ :: _, [], _, h => h.elim
  | w :: l, v :: m, i, h => by
    refine ⟨rfl, h.1, ?_⟩
    have hc := xden.cat sv ex h.1
    have e : (if v.category = 2 then i + 2 else i + 1) = cond (Nat.beq (xkd w.1) 1) (i + 2) (i + 1) := by
      rw [hc]; cases Nat.beq (xkd w.1) 1 <;> rfl
    show xlsR sv ex as (xarg (cond (Nat.beq (xkd w.1) 1) (i + 2) (i + 1)) l) (lv_args (if v.category = 2 then i + 2 else i + 1) m)
    rw [e]
    exact xarg_ok _ h.2
theorem xsl_len {as : List Nat} : ∀ {a : List xv} {b : List Value}, xstR sv ex as a b → (lg_sl b).length = xwds a
  | [], [], _ => rfl
  | [], _ :: _, h => h.elim
  | _ :: _, [], h => h.elim
  | w :: l, v :: m, h => by
    have hc := xden.cat sv ex h.1
    have ih := xsl_len h.2
    unfold lg_sl at ih ⊢
    rw [List.flatMap_cons, List.length_append, ih, hc]
    show _ = cond (Nat.beq (xkd w.1) 1) 2 1 + xwds l
    cases Nat.beq (xkd w.1) 1 <;> rfl
theorem xpop_ok {as : List Nat} : ∀ (k : Nat) {acc st : List xv} {accV stV : List Value} {q : List xv × List xv}, xstR sv ex as acc accV → xstR sv ex as st stV → xpop k acc st = some q →
    ∃ aV rV, xstR sv ex as q.1 aV ∧ xstR sv ex as q.2 rV ∧ aV.reverse ++ rV = accV.reverse ++ stV ∧ aV.length = k + accV.length
  | 0, acc, st, accV, stV, q, h1, h2, h => by
    cases h
    exact ⟨accV, stV, h1, h2, rfl, by omega⟩
  | k + 1, acc, [], accV, stV, q, h1, h2, h => by cases h
  | k + 1, acc, w :: l, accV, [], q, h1, h2, h => h2.elim
  | k + 1, acc, w :: l, accV, v :: m, q, h1, h2, h => by
    obtain ⟨aV, rV, e1, e2, e3, e4⟩ := xpop_ok k (acc := w :: acc) (accV := v :: accV) ⟨h2.1, h1⟩ h2.2 h
    refine ⟨aV, rV, e1, e2, ?_, ?_⟩
    · rw [e3, List.reverse_cons, List.append_assoc]; rfl
    · rw [e4, List.length_cons]; omega
end Rel
end
section
/-! Cells, heaps, frames; what is known of the tables -/
section World
variable (D : va_G) (cl : List vw_C) (A : Nat → Prop) (sv : Nat → Int32) (ex : Nat → Nat)
def xaT (U : State) (cA : ClassId) (ty : FieldType) : Prop := ArrOfT U cA ty ∧ va_RA U cA ty
def xcR (U : State) (as : List Nat) (c : xcell) (e : va_E) : Prop :=
  (c.1 < 13 ∧ (∃ r : vw_C, cl[c.1]? = some r ∧ r.2.2 = c.2.1) ∧ ∃ fs : List Value, e = .inr (c.1, fs) ∧ fs.length = c.2.1 ∧ ∀ j : Nat, j < c.2.1 → ∃ (w : xv) (v : Value), xg c.2.2 j = some w ∧ fs[j]? = some v ∧ xden sv ex as w v)
  ∨ (c.1 = 13 ∧ ∃ (cA : ClassId) (f : Nat → Int32), e = .inl (cA, c.2.1, .inl f) ∧ xaT U cA .int ∧ ∀ j : Nat, j < c.2.1 → ∃ w : xv, xg c.2.2 j = some w ∧ xden sv ex as w (.int (f j)))
  ∨ (c.1 = 14 ∧ ∃ (cA : ClassId) (f : Nat → Int64), e = .inl (cA, c.2.1, .inr (.inl f)) ∧ xaT U cA .long ∧ ∀ j : Nat, j < c.2.1 → ∃ w : xv, xg c.2.2 j = some w ∧ xden sv ex as w (.long (f j)))
  ∨ (c.1 = 15 ∧ ∃ (cA : ClassId) (f : Nat → Int32), e = .inl (cA, c.2.1, .inl f) ∧ xaT U cA .byte ∧ ∀ j : Nat, j < c.2.1 → ∃ w : xv, xg c.2.2 j = some w ∧ xden sv ex as w (.int (f j)))
  ∨ (20 ≤ c.1 ∧ ∃ (cA : ClassId) (r : vw_C) (f : Nat → Option Nat), cl[c.1 - 20]? = some r ∧ e = .inl (cA, c.2.1, .inr (.inr (.inr (.inr f)))) ∧ xaT U cA (.object r.1) ∧ ∀ j : Nat, j < c.2.1 → ∃ w : xv, xg c.2.2 j = some w ∧ xden sv ex as w (va_rf (f j)))
theorem xaT.moved {u U : State} (hvm : u.vm.Alike U.vm) {cA : ClassId} {ty : FieldType} (h : xaT u cA ty) : xaT U cA ty := ⟨arrOfT_moved hvm h.1, h.2.moved hvm⟩
theorem xcR.moved {u U : State} (hvm : u.vm.Alike U.vm) {as : List Nat} {c : xcell} {e : va_E} (h : xcR cl sv ex u as c e) : xcR cl sv ex U as c e := by
  rcases h with h | ⟨h0, cA, f, h1, h2, h3⟩ | ⟨h0, cA, f, h1, h2, h3⟩ | ⟨h0, cA, f, h1, h2, h3⟩ | ⟨h0, cA, r, f, h1, h2, h3, h4⟩
  · exact Or.inl h
  · exact Or.inr (Or.inl ⟨h0, cA, f, h1, h2.moved hvm, h3⟩)
  · exact Or.inr (Or.inr (Or.inl ⟨h0, cA, f, h1, h2.moved hvm, h3⟩))
  · exact Or.inr (Or.inr (Or.inr (Or.inl ⟨h0, cA, f, h1, h2.moved hvm, h3⟩)))
  · exact Or.inr (Or.inr (Or.inr (Or.inr ⟨h0, cA, r, f, h1, h2, h3.moved hvm, h4⟩)))
theorem xcR.mono {U : State} {as as' : List Nat} (hl : xle as as') {c : xcell} {e : va_E} (h : xcR cl sv ex U as c e) : xcR cl sv ex U as' c e := by
  rcases h with ⟨h0, h1, fs, h2, h3, h4⟩ | ⟨h0, cA, f, h1, h2, h3⟩ | ⟨h0, cA, f, h1, h2, h3⟩ | ⟨h0, cA, f, h1, h2, h3⟩ | ⟨h0, cA, r, f, h1, h2, h3, h4⟩
  · refine Or.inl ⟨h0, h1, fs, h2, h3, fun j hj => ?_⟩
    obtain ⟨w, v, q1, q2, q3⟩ := h4 j hj
    exact ⟨w, v, q1, q2, xden.mono sv ex hl q3⟩
  · refine Or.inr (Or.inl ⟨h0, cA, f, h1, h2, fun j hj => ?_⟩)
    obtain ⟨w, q1, q3⟩ := h3 j hj
    exact ⟨w, q1, xden.mono sv ex hl q3⟩
  · refine Or.inr (Or.inr (Or.inl ⟨h0, cA, f, h1, h2, fun j hj => ?_⟩))
    obtain ⟨w, q1, q3⟩ := h3 j hj
    exact ⟨w, q1, xden.mono sv ex hl q3⟩
  · refine Or.inr (Or.inr (Or.inr (Or.inl ⟨h0, cA, f, h1, h2, fun j hj => ?_⟩)))
    obtain ⟨w, q1, q3⟩ := h3 j hj
    exact ⟨w, q1, xden.mono sv ex hl q3⟩
  · refine Or.inr (Or.inr (Or.inr (Or.inr ⟨h0, cA, r, f, h1, h2, h3, fun j hj => ?_⟩)))
    obtain ⟨w, q1, q3⟩ := h4 j hj
    exact ⟨w, q1, xden.mono sv ex hl q3⟩
theorem xcR.obj {U : State} {as : List Nat} {c : xcell} {e : va_E} (h : xcR cl sv ex U as c e) (hc : c.1 < 13) : (∃ r : vw_C, cl[c.1]? = some r ∧ r.2.2 = c.2.1) ∧ ∃ fs : List Value, e = .inr (c.1, fs) ∧ fs.length = c.2.1 ∧ ∀ j : Nat, j < c.2.1 → ∃ (w : xv) (v : Value), xg c.2.2 j = some w ∧ fs[j]? = some v ∧ xden sv ex as w v := by
  rcases h with h | h | h | h | h
  · exact h.2
  · have := h.1; omega
  · have := h.1; omega
  · have := h.1; omega
  · have := h.1; omega
theorem xcR.a13 {U : State} {as : List Nat} {c : xcell} {e : va_E} (h : xcR cl sv ex U as c e) (hc : c.1 = 13) : ∃ (cA : ClassId) (f : Nat → Int32), e = .inl (cA, c.2.1, .inl f) ∧ xaT U cA .int ∧ ∀ j : Nat, j < c.2.1 → ∃ w : xv, xg c.2.2 j = some w ∧ xden sv ex as w (.int (f j)) := by
  rcases h with h | h | h | h | h
  · have := h.1; omega
  · exact h.2
  · have := h.1; omega
  · have := h.1; omega
  · have := h.1; omega
theorem xcR.a14 {U : State} {as : List Nat} {c : xcell} {e : va_E} (h : xcR cl sv ex U as c e) (hc : c.1 = 14) : ∃ (cA : ClassId) (f : Nat → Int64), e = .inl (cA, c.2.1, .inr (.inl f)) ∧ xaT U cA .long ∧ ∀ j : Nat, j < c.2.1 → ∃ w : xv, xg c.2.2 j = some w ∧ xden sv ex as w (.long (f j)) := by
  rcases h with h | h | h | h | h
  · have := h.1; omega
  · have := h.1; omega
  · exact h.2
  · have := h.1; omega
  · have := h.1; omega
theorem xcR.a15 {U : State} {as : List Nat} {c : xcell} {e : va_E} (h : xcR cl sv ex U as c e) (hc : c.1 = 15) : ∃ (cA : ClassId) (f : Nat → Int32), e = .inl (cA, c.2.1, .inl f) ∧ xaT U cA .byte ∧ ∀ j : Nat, j < c.2.1 → ∃ w : xv, xg c.2.2 j = some w ∧ xden sv ex as w (.int (f j)) := by
  rcases h with h | h | h | h | h
  · have := h.1; omega
  · have := h.1; omega
  · have := h.1; omega
  · exact h.2
  · have := h.1; omega
theorem xcR.a20 {U : State} {as : List Nat} {c : xcell} {e : va_E} (h : xcR cl sv ex U as c e) (hc : 20 ≤ c.1) : ∃ (cA : ClassId) (r : vw_C) (f : Nat → Option Nat), cl[c.1 - 20]? = some r ∧ e = .inl (cA, c.2.1, .inr (.inr (.inr (.inr f)))) ∧ xaT U cA (.object r.1) ∧ ∀ j : Nat, j < c.2.1 → ∃ w : xv, xg c.2.2 j = some w ∧ xden sv ex as w (va_rf (f j)) := by
  rcases h with h | h | h | h | h
  · have := h.1; omega
  · have := h.1; omega
  · have := h.1; omega
  · have := h.1; omega
  · exact h.2
/-- any array: its length and class -/
theorem xcR.arr {U : State} {as : List Nat} {c : xcell} {e : va_E} (h : xcR cl sv ex U as c e) (hc : 13 ≤ c.1) : ∃ (cA : ClassId) (x : vp_A) (ty : FieldType), e = .inl (cA, x) ∧ x.1 = c.2.1 ∧ xaT U cA ty := by
  rcases h with h | ⟨h0, cA, f, h1, h2, h3⟩ | ⟨h0, cA, f, h1, h2, h3⟩ | ⟨h0, cA, f, h1, h2, h3⟩ | ⟨h0, cA, r, f, h1, h2, h3, h4⟩
  · have := h.1; omega
  · exact ⟨cA, _, _, h1, rfl, h2⟩
  · exact ⟨cA, _, _, h1, rfl, h2⟩
  · exact ⟨cA, _, _, h1, rfl, h2⟩
  · exact ⟨cA, _, _, h2, rfl, h3⟩
def xhR (U : State) (as : List Nat) (h : xheap) (n : Nat) (ws : va_W) : Prop :=
  as.length = n ∧ ws.length = n ∧ ∀ k : Nat, k < n → ∃ (a : Nat) (c : xcell) (e : va_E), as[k]? = some a ∧ xg h k = some c ∧ ws[k]? = some (a, e) ∧ xcR cl sv ex U as c e
theorem xhR.moved {u U : State} (hvm : u.vm.Alike U.vm) {as : List Nat} {h : xheap} {n : Nat} {ws : va_W} (hh : xhR cl sv ex u as h n ws) : xhR cl sv ex U as h n ws := by
  obtain ⟨h1, h2, h3⟩ := hh
  refine ⟨h1, h2, fun k hk => ?_⟩
  obtain ⟨a, c, e, q1, q2, q3, q4⟩ := h3 k hk
  exact ⟨a, c, e, q1, q2, q3, xcR.moved cl sv ex hvm q4⟩
theorem xhR.at {U : State} {as : List Nat} {h : xheap} {n : Nat} {ws : va_W} (hh : xhR cl sv ex U as h n ws) {k a : Nat} {q : xcell} (ha : as[k]? = some a) (hq : xg h k = some q) : ∃ e : va_E, ws[k]? = some (a, e) ∧ xcR cl sv ex U as q e := by
  obtain ⟨h1, h2, h3⟩ := hh
  have hk : k < n := by rw [← h1]; exact (List.getElem?_eq_some_iff.mp ha).1
  obtain ⟨a', c, e, q1, q2, q3, q4⟩ := h3 k hk
  have e1 : a' = a := Option.some.inj (q1.symm.trans ha)
  have e2 : c = q := Option.some.inj (q2.symm.trans hq)
  subst e1; subst e2
  exact ⟨e, q3, q4⟩
theorem xhR.set {U : State} {as : List Nat} {h : xheap} {n : Nat} {ws : va_W} (hh : xhR cl sv ex U as h n ws) {k a : Nat} {q q' : xcell} {e' : va_E} (ha : as[k]? = some a) (hq : xg h k = some q) (he : xcR cl sv ex U as q' e') : xhR cl sv ex U as (xw h k q') n (ws.set k (a, e')) := by
  obtain ⟨h1, h2, h3⟩ := hh
  refine ⟨h1, by rw [List.length_set]; exact h2, fun j hj => ?_⟩
  by_cases hjk : j = k
  · subst hjk
    exact ⟨a, q', e', ha, xg_self h j q' q hq, List.getElem?_set_self (by rw [h2]; exact hj), he⟩
  · obtain ⟨a', c, e, q1, q2, q3, q4⟩ := h3 j hj
    exact ⟨a', c, e, q1, by rw [xg_other h k j q' hjk]; exact q2, by rw [List.getElem?_set_ne (Ne.symm hjk)]; exact q3, q4⟩
theorem xhR.push {U : State} {as : List Nat} {h : xheap} {n : Nat} {ws : va_W} (hh : xhR cl sv ex U as h n ws) {a : Nat} {q q' : xcell} {e' : va_E} (hq : xg h n = some q) (he : xcR cl sv ex U (as ++ [a]) q' e') : xhR cl sv ex U (as ++ [a]) (xw h n q') (n + 1) (ws ++ [(a, e')]) := by
  obtain ⟨h1, h2, h3⟩ := hh
  refine ⟨by rw [List.length_append, h1]; rfl, by rw [List.length_append, h2]; rfl, fun j hj => ?_⟩
  by_cases hjk : j = n
  · subst hjk
    refine ⟨a, q', e', ?_, xg_self h j q' q hq, ?_, he⟩
    · rw [← h1, List.getElem?_append_right (Nat.le_refl _), Nat.sub_self]; rfl
    · rw [← h2, List.getElem?_append_right (Nat.le_refl _), Nat.sub_self]; rfl
  · obtain ⟨a', c, e, q1, q2, q3, q4⟩ := h3 j (by omega)
    refine ⟨a', c, e, xle.push as a j a' q1, by rw [xg_other h n j q' hjk]; exact q2, ?_, xcR.mono cl sv ex (xle.push as a) q4⟩
    rw [List.getElem?_append_left (by omega)]; exact q3
def xWorld (s : State) (as : List Nat) (bx : xbox) (h : xheap) (n : Nat) (ws : va_W) (H : Heap) (locs : List Loc) : Prop :=
  xbxo sv bx ∧ xhR cl sv ex s as h n ws ∧ va_P D cl ws H ∧ va_D A ws ∧ va_S A s.heap H locs
def xFrm (as : List Nat) (nL : Nat) (ls : List (Nat × xv)) (st : List xv) (la : Array Slot) (stv : List Value) : Prop :=
  (∃ lv : List (Nat × Value), lv_has la nL lv ∧ xlsR sv ex as ls lv) ∧ xstR sv ex as st stv
/-- what was there before and is read: the script, two statics, a text -/
def xEX (el : Nat → Nat) (eb : Nat → List Nat) (nest : List (String × Nat × MethodName × String)) (txt : Nat → String × Nat × String) (ovr : List String) (s : State) : Prop :=
  (va_X (ex 0) (el 0) sv s s.heap ∧ ex 0 < s.heap.size ∧ ¬ A (ex 0)) ∧
  va_Z "java/lang/String" "COMPACT_STRINGS" "Z" (.int 1) A s s.heap ∧
  va_Zq "jdk/internal/util/Preconditions" "SIOOBE_FORMATTER" "Ljava/util/function/BiFunction;" A s s.heap ∧
  (∀ i : Nat, i = 1 ∨ i = 3 → va_O "java/lang/String" (ex i) A s s.heap ∧ va_OF "java/lang/String" "coder" "B" (.int 0) (ex i) A s s.heap ∧ va_OF "java/lang/String" "value" "[B" (.ref (ex (i + 1))) (ex i) A s s.heap ∧ va_T .byte (ex (i + 1)) (el (i + 1)) (fun j => .int (nI ((eb (i + 1)).getD j 0))) A s s.heap) ∧
  (∀ i : Nat, i = 1 ∨ i = 3 → vk_R (txt i).1 (txt i).2.1 (txt i).2.2 (ex i) s) ∧
  (∀ q ∈ nest, va_Nw (.methodLinkNest q.1 q.2.1 q.2.2.1 q.2.2.2) s) ∧ ∀ C ∈ ovr, va_AO C s
theorem xEX.moved {el : Nat → Nat} {eb : Nat → List Nat} {nest : List (String × Nat × MethodName × String)} {txt : Nat → String × Nat × String} {ovr : List String} {s U : State} (hW : s.WarmedH U.vm) (hz : s.heap.size ≤ U.heap.size) (hk : ∀ a : Nat, a < s.heap.size → ¬ A a → U.heap[a]? = s.heap[a]?) (h : xEX A sv ex el eb nest txt ovr s) : xEX A sv ex el eb nest txt ovr U := by
  obtain ⟨⟨a1, a2, a3⟩, b, c, d, e, f, g⟩ := h
  have hv := hW.alike
  refine ⟨⟨(a1.moved hv).kept (hk _ a2 a3), Nat.lt_of_lt_of_le a2 hz, a3⟩, (b.moved hv).kept hk, ?_, fun i hi => ⟨(va_O.moved hv (d i hi).1).kept hk, (va_OF.moved hv (d i hi).2.1).kept hk, (va_OF.moved hv (d i hi).2.2.1).kept hk, (va_T.moved hv (d i hi).2.2.2).kept hk⟩, fun i hi => vk_R.warm hW (e i hi), fun q hq => va_Nw.warmM hW (f q hq), fun C hC => va_AO.moved hv (g C hC)⟩
  rcases c with c | ⟨t, c⟩
  · exact Or.inl ((c.moved hv).kept hk)
  · exact Or.inr ⟨t, (c.moved hv).kept hk⟩
theorem xEX.same {el : Nat → Nat} {eb : Nat → List Nat} {nest : List (String × Nat × MethodName × String)} {txt : Nat → String × Nat × String} {ovr : List String} {s U : State} (hv : U.vm = s.vm) (hh : U.heap = s.heap) (h : xEX A sv ex el eb nest txt ovr s) : xEX A sv ex el eb nest txt ovr U := by
  obtain ⟨⟨a1, a2, a3⟩, b, c, d, e, f, g⟩ := h
  have hva : s.vm.Alike U.vm := by rw [hv]; exact Vm.Alike.refl _
  unfold xEX
  rw [hh]
  refine ⟨⟨a1.moved hva, a2, a3⟩, b.moved hva, ?_, fun i hi => ⟨va_O.moved hva (d i hi).1, va_OF.moved hva (d i hi).2.1, va_OF.moved hva (d i hi).2.2.1, va_T.moved hva (d i hi).2.2.2⟩, fun i hi => vk_R.same hv (e i hi), fun q hq => va_Nw.same rfl hv.symm (f q hq), fun C hC => va_AO.moved hva (g C hC)⟩
  rcases c with c | ⟨t, c⟩
  · exact Or.inl (c.moved hva)
  · exact Or.inr ⟨t, c.moved hva⟩
end World
end
section
/-! What it means that a step ends well -/
theorem xcnd {α : Type} {b : Bool} {x : Option α} {L : α} (h : cond b x none = some L) : b = true ∧ x = some L := by
  cases b with
  | true => exact ⟨rfl, h⟩
  | false => cases h
theorem xcndn {α : Type} {b : Bool} {x : Option α} {L : α} (h : cond b none x = some L) : b = false ∧ x = some L := by
  cases b with
  | false => exact ⟨rfl, h⟩
  | true => cases h
theorem xand {a b : Bool} (h : (a && b) = true) : a = true ∧ b = true := by cases a <;> cases b <;> simp_all
theorem xor2 {a b : Bool} (h : (a || b) = true) : a = true ∨ b = true := by cases a <;> cases b <;> simp_all
theorem xeqb {a b : Nat} (h : Nat.beq a b = true) : a = b := Nat.eq_of_beq_eq_true h
theorem xneb {a b : Nat} (h : Nat.beq a b = false) : a ≠ b := fun e => by rw [e, Nat.beq_refl] at h; cases h
theorem xleb {a b : Nat} (h : Nat.ble a b = true) : a ≤ b := Nat.le_of_ble_eq_true h
theorem xltb {a b : Nat} (h : Nat.blt a b = true) : a < b := Nat.le_of_ble_eq_true h
theorem xnleb {a b : Nat} (h : Nat.ble a b = false) : b < a := Nat.lt_of_not_le fun q => by rw [Nat.ble_eq_true_of_le q] at h; cases h
theorem xnltb {a b : Nat} (h : Nat.blt a b = false) : b ≤ a := Nat.le_of_lt_succ (xnleb (a := a + 1) (b := b) h)
theorem xapp_ok {a b : xR} {L : List xleaf} (h : xapp a b = some L) : ∃ x y, a = some x ∧ b = some y ∧ L = x ++ y := by
  cases a with
  | none => cases h
  | some x =>
    cases b with
    | none => cases h
    | some y => exact ⟨x, y, rfl, rfl, (Option.some.inj h).symm⟩
theorem xbind_ok {k : xleaf → xR} : ∀ {M L : List xleaf}, xbind k M = some L → ∀ q ∈ M, ∃ L', k q = some L' ∧ ∀ x ∈ L', x ∈ L
  | [], L, _, q, hq => by cases hq
  | r :: M, L, h, q, hq => by
    obtain ⟨x, y, h1, h2, h3⟩ := xapp_ok h
    subst h3
    rcases List.mem_cons.mp hq with e | e
    · subst e
      exact ⟨x, h1, fun z hz => List.mem_append_left _ hz⟩
    · obtain ⟨L', g1, g2⟩ := xbind_ok h2 q e
      exact ⟨L', g1, fun z hz => List.mem_append_right _ (g2 z hz)⟩
section Inv
variable {sv : Nat → Int32} {ex : Nat → Nat}
theorem xspl_ok {k : xbox → xR} {bx : xbox} {i o : Nat} {L : List xleaf} (hb : xbxo sv bx) (h : xspl k bx i o = some L) : ∃ bx' L', xbxo sv bx' ∧ k bx' = some L' ∧ ∀ q ∈ L', q ∈ L := by
  obtain ⟨x, y, h1, h2, h3⟩ := xapp_ok h
  obtain ⟨u, v, h4, h5, h6⟩ := xapp_ok h2
  subst h3; subst h6
  have hr := hb i
  rcases Nat.lt_trichotomy (xoff (sv i).toInt) o with q | q | q
  · have hf : Nat.ble o (xbg bx i).1 = false := by
      cases hq : Nat.ble o (xbg bx i).1 with
      | false => rfl
      | true => have := xleb hq; have := hr.1; dsimp only at this; omega
    rw [hf] at h1
    exact ⟨_, x, xbf_set bx _ i _ _ hb hr.1 (by omega), h1, fun z hz => List.mem_append_left _ hz⟩
  · exact ⟨_, u, xbf_set bx _ i _ _ hb (by omega) (by omega), h4, fun z hz => List.mem_append_right _ (List.mem_append_left _ hz)⟩
  · have hf : Nat.ble (xbg bx i).2 o = false := by
      cases hq : Nat.ble (xbg bx i).2 o with
      | false => rfl
      | true => have := xleb hq; have := hr.2; dsimp only at this; omega
    rw [hf] at h5
    exact ⟨_, v, xbf_set bx _ i _ _ hb (by omega) hr.2, h5, fun z hz => List.mem_append_right _ (List.mem_append_right _ hz)⟩
def xrel (o : Jvm.ClassFile.Cond) (x y : Nat) : Prop :=
  match o with
  | .eq => x = y
  | .ne => ¬ x = y
  | .lt => x < y
  | .ge => y ≤ x
  | .gt => y < x
  | .le => x ≤ y
theorem xdec_ok {o : Jvm.ClassFile.Cond} {a b : Nat × Nat} {t : Bool} (h : xdec o a b = some t) {x y : Nat} (h1 : a.1 ≤ x) (h2 : x ≤ a.2) (h3 : b.1 ≤ y) (h4 : y ≤ b.2) : t = true ↔ xrel o x y := by
  cases o with
  | eq =>
    have h : cond (Nat.beq a.1 a.2 && Nat.beq b.1 b.2 && Nat.beq a.1 b.1) (some true) (cond (Nat.blt a.2 b.1 || Nat.blt b.2 a.1) (some false) none) = some t := h
    show t = true ↔ x = y
    cases hc : (Nat.beq a.1 a.2 && Nat.beq b.1 b.2 && Nat.beq a.1 b.1) with
    | true =>
      rw [hc] at h; cases h
      obtain ⟨g1, g2⟩ := xand hc
      obtain ⟨g3, g4⟩ := xand g1
      have := xeqb g2; have := xeqb g3; have := xeqb g4
      exact ⟨fun _ => by omega, fun _ => rfl⟩
    | false =>
      rw [hc] at h
      obtain ⟨g1, g2⟩ := xcnd h
      cases g2
      rcases xor2 g1 with g | g
      · have := xltb g; exact ⟨fun q => (by cases q), fun q => by omega⟩
      · have := xltb g; exact ⟨fun q => (by cases q), fun q => by omega⟩
  | ne =>
    have h : cond (Nat.beq a.1 a.2 && Nat.beq b.1 b.2 && Nat.beq a.1 b.1) (some false) (cond (Nat.blt a.2 b.1 || Nat.blt b.2 a.1) (some true) none) = some t := h
    show t = true ↔ ¬ x = y
    cases hc : (Nat.beq a.1 a.2 && Nat.beq b.1 b.2 && Nat.beq a.1 b.1) with
    | true =>
      rw [hc] at h; cases h
      obtain ⟨g1, g2⟩ := xand hc
      obtain ⟨g3, g4⟩ := xand g1
      have := xeqb g2; have := xeqb g3; have := xeqb g4
      exact ⟨fun q => (by cases q), fun q => by omega⟩
    | false =>
      rw [hc] at h
      obtain ⟨g1, g2⟩ := xcnd h
      cases g2
      rcases xor2 g1 with g | g
      · have := xltb g; exact ⟨fun _ => by omega, fun _ => rfl⟩
      · have := xltb g; exact ⟨fun _ => by omega, fun _ => rfl⟩
  | lt =>
    have h : cond (Nat.blt a.2 b.1) (some true) (cond (Nat.ble b.2 a.1) (some false) none) = some t := h
    show t = true ↔ x < y
    cases hc : Nat.blt a.2 b.1 with
    | true => rw [hc] at h; cases h; have := xltb hc; exact ⟨fun _ => by omega, fun _ => rfl⟩
    | false =>
      rw [hc] at h
      obtain ⟨g1, g2⟩ := xcnd h
      cases g2
      have := xleb g1
      exact ⟨fun q => (by cases q), fun q => by omega⟩
  | ge =>
    have h : cond (Nat.blt a.2 b.1) (some false) (cond (Nat.ble b.2 a.1) (some true) none) = some t := h
    show t = true ↔ y ≤ x
    cases hc : Nat.blt a.2 b.1 with
    | true => rw [hc] at h; cases h; have := xltb hc; exact ⟨fun q => (by cases q), fun q => by omega⟩
    | false =>
      rw [hc] at h
      obtain ⟨g1, g2⟩ := xcnd h
      cases g2
      have := xleb g1
      exact ⟨fun _ => by omega, fun _ => rfl⟩
  | gt =>
    have h : cond (Nat.blt b.2 a.1) (some true) (cond (Nat.ble a.2 b.1) (some false) none) = some t := h
    show t = true ↔ y < x
    cases hc : Nat.blt b.2 a.1 with
    | true => rw [hc] at h; cases h; have := xltb hc; exact ⟨fun _ => by omega, fun _ => rfl⟩
    | false =>
      rw [hc] at h
      obtain ⟨g1, g2⟩ := xcnd h
      cases g2
      have := xleb g1
      exact ⟨fun q => (by cases q), fun q => by omega⟩
  | le =>
    have h : cond (Nat.blt b.2 a.1) (some false) (cond (Nat.ble a.2 b.1) (some true) none) = some t := h
    show t = true ↔ x ≤ y
    cases hc : Nat.blt b.2 a.1 with
    | true => rw [hc] at h; cases h; have := xltb hc; exact ⟨fun q => (by cases q), fun q => by omega⟩
    | false =>
      rw [hc] at h
      obtain ⟨g1, g2⟩ := xcnd h
      cases g2
      have := xleb g1
      exact ⟨fun _ => by omega, fun _ => rfl⟩
theorem xbr_ok {o : Jvm.ClassFile.Cond} {bx : xbox} {a b : xv} {k : Bool → xR} {again : xbox → xR} {L : List xleaf} (h : xbr o bx a b k again = some L) :
    (∃ t, xdec o (xrg bx a) (xrg bx b) = some t ∧ k t = some L) ∨ (∃ i q, xspl again bx i q = some L) ∨ (∃ L1 L2, k true = some L1 ∧ k false = some L2 ∧ L = L1 ++ L2) := by
  unfold xbr at h
  cases hd : xdec o (xrg bx a) (xrg bx b) with
  | some t => rw [hd] at h; exact Or.inl ⟨t, rfl, h⟩
  | none =>
    rw [hd] at h
    cases hp : xpt bx a b with
    | some q => rw [hp] at h; exact Or.inr (Or.inl ⟨q.1, q.2, h⟩)
    | none =>
      rw [hp] at h
      obtain ⟨x, y, h1, h2, h3⟩ := xapp_ok h
      exact Or.inr (Or.inr ⟨x, y, h1, h2, h3⟩)
variable {mi : xmi} {df : xdf} {el : Nat → Nat} {eb : Nat → List Nat} {rec : xF} {nx tg r1 r2 y d pc : Nat} {ls : List (Nat × xv)} {st : List xv} {bx : xbox} {h : xheap} {n c s : Nat} {L : List xleaf}
theorem x_ld_ok {k1 k2 : Nat} (hx : x_ld rec nx r1 y d ls st bx h n c s k1 k2 = some L) : ∃ w, xlk ls r1 = some w ∧ (xkd w.1 = k1 ∨ xkd w.1 = k2) ∧ rec y d nx ls (w :: st) bx h n c s = some L := by
  unfold x_ld at hx
  cases hl : xlk ls r1 with
  | none => rw [hl] at hx; cases hx
  | some w =>
    rw [hl] at hx
    obtain ⟨h1, h2⟩ := xcnd hx
    exact ⟨w, rfl, (xor2 h1).imp xeqb xeqb, h2⟩
theorem x_st_ok {k1 k2 : Nat} {f : Nat → Nat × xv → Bool} (hx : x_st rec nx r1 y d ls st bx h n c s k1 k2 f = some L) : ∃ w r, st = w :: r ∧ (xkd w.1 = k1 ∨ xkd w.1 = k2) ∧ rec y d nx ((r1, w) :: ls.filter (f r1)) r bx h n c s = some L := by
  unfold x_st at hx
  cases st with
  | nil => cases hx
  | cons w r =>
    obtain ⟨h1, h2⟩ := xcnd hx
    rw [xfl_eq] at h2
    exact ⟨w, r, rfl, (xor2 h1).imp xeqb xeqb, h2⟩
theorem x_inc_ok (hx : x_inc rec nx r1 r2 y d ls st bx h n c s = some L) : ∃ w x, xlk ls r1 = some w ∧ xci bx w = some x ∧ rec y d nx ((r1, (0, (x + r2) % 4294967296)) :: ls.filter (xk1 r1)) st bx h n c s = some L := by
  unfold x_inc at hx
  cases hl : xlk ls r1 with
  | none => rw [hl] at hx; cases hx
  | some w =>
    rw [hl] at hx
    dsimp only at hx
    cases hc : xci bx w with
    | none => rw [hc] at hx; cases hx
    | some x =>
      rw [hc] at hx
      dsimp only at hx
      rw [xfl_eq, xfrc_eq] at hx
      exact ⟨w, x, rfl, hc, hx⟩
theorem x_bi_ok {f : Nat → Nat → Nat} (hx : x_bi rec nx y d ls st bx h n c s f = some L) : ∃ b a r, st = b :: a :: r ∧ xkd b.1 = 0 ∧ xkd a.1 = 0 ∧
    ((∃ x z, xci bx a = some x ∧ xci bx b = some z ∧ rec y d nx ls ((0, f x z) :: r) bx h n c s = some L) ∨ rec y d nx ls ((7, 0) :: r) bx h n c s = some L) := by
  unfold x_bi at hx
  match st, hx with
  | [], hx => cases hx
  | [_], hx => cases hx
  | b :: a :: r, hx =>
    obtain ⟨h1, h2⟩ := xcnd hx
    obtain ⟨g1, g2⟩ := xand h1
    refine ⟨b, a, r, rfl, xeqb g1, xeqb g2, ?_⟩
    cases ha : xci bx a with
    | none => rw [ha] at h2; exact Or.inr h2
    | some x =>
      rw [ha] at h2
      dsimp only at h2
      cases hb : xci bx b with
      | none => rw [hb] at h2; exact Or.inr h2
      | some z =>
        rw [hb] at h2
        dsimp only at h2
        rw [xfrc_eq] at h2
        exact Or.inl ⟨x, z, rfl, rfl, h2⟩
theorem x_dv_ok {f : Nat → Nat → Nat} (hx : x_dv rec nx y d ls st bx h n c s f = some L) : ∃ b a r x z, st = b :: a :: r ∧ xci bx a = some x ∧ xci bx b = some z ∧ z % 4294967296 ≠ 0 ∧ rec y d nx ls ((0, f x z) :: r) bx h n c s = some L := by
  unfold x_dv at hx
  match st, hx with
  | [], hx => cases hx
  | [_], hx => cases hx
  | b :: a :: r, hx =>
    dsimp only at hx
    cases ha : xci bx a with
    | none => rw [ha] at hx; cases hx
    | some x =>
      rw [ha] at hx
      dsimp only at hx
      cases hb : xci bx b with
      | none => rw [hb] at hx; cases hx
      | some z =>
        rw [hb] at hx
        dsimp only at hx
        obtain ⟨h1, h2⟩ := xcndn hx
        rw [xfrc_eq] at h2
        exact ⟨b, a, r, x, z, rfl, ha, hb, xneb h1, h2⟩
theorem x_bl_ok {f : Nat → Nat → Nat} (hx : x_bl rec nx y d ls st bx h n c s f = some L) : ∃ b a r, st = b :: a :: r ∧ xkd b.1 = 1 ∧ xkd a.1 = 1 ∧
    ((∃ x z, xcl bx a = some x ∧ xcl bx b = some z ∧ rec y d nx ls ((2, f x z) :: r) bx h n c s = some L) ∨ rec y d nx ls ((8, 0) :: r) bx h n c s = some L) := by
  unfold x_bl at hx
  match st, hx with
  | [], hx => cases hx
  | [_], hx => cases hx
  | b :: a :: r, hx =>
    obtain ⟨h1, h2⟩ := xcnd hx
    obtain ⟨g1, g2⟩ := xand h1
    refine ⟨b, a, r, rfl, xeqb g1, xeqb g2, ?_⟩
    cases ha : xcl bx a with
    | none => rw [ha] at h2; exact Or.inr h2
    | some x =>
      rw [ha] at h2
      dsimp only at h2
      cases hb : xcl bx b with
      | none => rw [hb] at h2; exact Or.inr h2
      | some z =>
        rw [hb] at h2
        dsimp only at h2
        rw [xfrc_eq] at h2
        exact Or.inl ⟨x, z, rfl, rfl, h2⟩
theorem x_dl_ok {f : Nat → Nat → Nat} (hx : x_dl rec nx y d ls st bx h n c s f = some L) : ∃ b a r x z, st = b :: a :: r ∧ xcl bx a = some x ∧ xcl bx b = some z ∧ z % 18446744073709551616 ≠ 0 ∧ rec y d nx ls ((2, f x z) :: r) bx h n c s = some L := by
  unfold x_dl at hx
  match st, hx with
  | [], hx => cases hx
  | [_], hx => cases hx
  | b :: a :: r, hx =>
    dsimp only at hx
    cases ha : xcl bx a with
    | none => rw [ha] at hx; cases hx
    | some x =>
      rw [ha] at hx
      dsimp only at hx
      cases hb : xcl bx b with
      | none => rw [hb] at hx; cases hx
      | some z =>
        rw [hb] at hx
        dsimp only at hx
        obtain ⟨h1, h2⟩ := xcndn hx
        rw [xfrc_eq] at h2
        exact ⟨b, a, r, x, z, rfl, ha, hb, xneb h1, h2⟩
theorem x_sl_ok {f : Nat → Nat → Nat} (hx : x_sl rec nx y d ls st bx h n c s f = some L) : ∃ b a r, st = b :: a :: r ∧ xkd b.1 = 0 ∧ xkd a.1 = 1 ∧
    ((∃ x z, xcl bx a = some x ∧ xci bx b = some z ∧ rec y d nx ls ((2, f x z) :: r) bx h n c s = some L) ∨ rec y d nx ls ((8, 0) :: r) bx h n c s = some L) := by
  unfold x_sl at hx
  match st, hx with
  | [], hx => cases hx
  | [_], hx => cases hx
  | b :: a :: r, hx =>
    obtain ⟨h1, h2⟩ := xcnd hx
    obtain ⟨g1, g2⟩ := xand h1
    refine ⟨b, a, r, rfl, xeqb g1, xeqb g2, ?_⟩
    cases ha : xcl bx a with
    | none => rw [ha] at h2; exact Or.inr h2
    | some x =>
      rw [ha] at h2
      dsimp only at h2
      cases hb : xci bx b with
      | none => rw [hb] at h2; exact Or.inr h2
      | some z =>
        rw [hb] at h2
        dsimp only at h2
        rw [xfrc_eq] at h2
        exact Or.inl ⟨x, z, rfl, rfl, h2⟩
theorem x_ui_ok {f : Nat → Nat} (hx : x_ui rec nx y d ls st bx h n c s f = some L) : ∃ a r, st = a :: r ∧ xkd a.1 = 0 ∧
    ((∃ x, xci bx a = some x ∧ rec y d nx ls ((0, f x) :: r) bx h n c s = some L) ∨ rec y d nx ls ((7, 0) :: r) bx h n c s = some L) := by
  unfold x_ui at hx
  match st, hx with
  | [], hx => cases hx
  | a :: r, hx =>
    obtain ⟨h1, h2⟩ := xcnd hx
    refine ⟨a, r, rfl, xeqb h1, ?_⟩
    cases ha : xci bx a with
    | none => rw [ha] at h2; exact Or.inr h2
    | some x =>
      rw [ha] at h2
      dsimp only at h2
      rw [xfrc_eq] at h2
      exact Or.inl ⟨x, rfl, h2⟩
theorem x_l2i_ok (hx : x_l2i rec nx y d ls st bx h n c s = some L) : ∃ a r, st = a :: r ∧ xkd a.1 = 1 ∧
    ((∃ x, xcl bx a = some x ∧ rec y d nx ls ((0, x % 4294967296) :: r) bx h n c s = some L) ∨ rec y d nx ls ((7, 0) :: r) bx h n c s = some L) := by
  unfold x_l2i at hx
  match st, hx with
  | [], hx => cases hx
  | a :: r, hx =>
    obtain ⟨h1, h2⟩ := xcnd hx
    refine ⟨a, r, rfl, xeqb h1, ?_⟩
    cases ha : xcl bx a with
    | none => rw [ha] at h2; exact Or.inr h2
    | some x =>
      rw [ha] at h2
      dsimp only at h2
      rw [xfrc_eq] at h2
      exact Or.inl ⟨x, rfl, h2⟩
/-- widening: the value that comes stands for the widened one -/
theorem x_i2l_ok (hx : x_i2l rec nx y d ls st bx h n c s = some L) : ∃ a r w, st = a :: r ∧ rec y d nx ls (w :: r) bx h n c s = some L ∧ ∀ (as : List Nat) (v : Value), xden sv ex as a v → ∃ x, v = .int x ∧ xden sv ex as w (.long x.toInt64) := by
  unfold x_i2l at hx
  match st, hx with
  | [], hx => cases hx
  | (0, k) :: r, hx =>
    dsimp only at hx
    rw [xfrc_eq] at hx
    exact ⟨_, r, _, rfl, hx, fun as v hv => ⟨nI k, hv, by show Value.long _ = Value.long _; rw [lN_xnl]⟩⟩
  | (1, k) :: r, hx => exact ⟨_, r, _, rfl, hx, fun as v hv => ⟨sv k, hv, rfl⟩⟩
  | (2, k) :: r, hx => cases hx
  | (3, k) :: r, hx => cases hx
  | (4, k) :: r, hx => cases hx
  | (5, k) :: r, hx => cases hx
  | (6, k) :: r, hx => cases hx
  | (7, k) :: r, hx =>
    refine ⟨_, r, _, rfl, hx, fun as v hv => ?_⟩
    obtain ⟨x, hv⟩ : ∃ x : Int32, v = .int x := hv
    exact ⟨x, hv, x.toInt64, rfl⟩
  | (_ + 8, k) :: r, hx => cases hx
theorem x_dup_ok (hx : x_dup rec nx y d ls st bx h n c s = some L) : ∃ a r, st = a :: r ∧ Nat.beq (xkd a.1) 1 = false ∧ rec y d nx ls (a :: a :: r) bx h n c s = some L := by
  unfold x_dup at hx
  match st, hx with
  | [], hx => cases hx
  | a :: r, hx =>
    obtain ⟨h1, h2⟩ := xcndn hx
    exact ⟨a, r, rfl, h1, h2⟩
theorem x_pop_ok (hx : x_pop rec nx y d ls st bx h n c s = some L) : ∃ a r, st = a :: r ∧ Nat.beq (xkd a.1) 1 = false ∧ rec y d nx ls r bx h n c s = some L := by
  unfold x_pop at hx
  match st, hx with
  | [], hx => cases hx
  | a :: r, hx =>
    obtain ⟨h1, h2⟩ := xcndn hx
    exact ⟨a, r, rfl, h1, h2⟩
theorem x_pop2_ok (hx : x_pop2 rec nx y d ls st bx h n c s = some L) : ∃ a r, st = a :: r ∧ Nat.beq (xkd a.1) 1 = true ∧ rec y d nx ls r bx h n c s = some L := by
  unfold x_pop2 at hx
  match st, hx with
  | [], hx => cases hx
  | a :: r, hx =>
    obtain ⟨h1, h2⟩ := xcnd hx
    exact ⟨a, r, rfl, h1, h2⟩
theorem x_dup2_ok (hx : x_dup2 rec nx y d ls st bx h n c s = some L) : (∃ a r, st = a :: r ∧ Nat.beq (xkd a.1) 1 = true ∧ rec y d nx ls (a :: a :: r) bx h n c s = some L) ∨ (∃ a b r, st = a :: b :: r ∧ Nat.beq (xkd a.1) 1 = false ∧ Nat.beq (xkd b.1) 1 = false ∧ rec y d nx ls (a :: b :: a :: b :: r) bx h n c s = some L) := by
  unfold x_dup2 at hx
  match st, hx with
  | [], hx => cases hx
  | a :: r, hx =>
    dsimp only at hx
    cases hb : Nat.beq (xkd a.1) 1 with
    | true => rw [hb] at hx; exact Or.inl ⟨a, r, rfl, hb, hx⟩
    | false =>
      rw [hb] at hx
      dsimp only [cond_false] at hx
      match r, hx with
      | [], hx => cases hx
      | b :: r', hx =>
        obtain ⟨h1, h2⟩ := xcndn hx
        exact Or.inr ⟨a, b, r', rfl, hb, h1, h2⟩
theorem x_icmp_ok {o : Jvm.ClassFile.Cond} (hx : x_icmp rec nx tg y d pc ls st bx h n c s o = some L) : ∃ b a r, st = b :: a :: r ∧ xkd b.1 = 0 ∧ xkd a.1 = 0 ∧ xbr o bx a b (fun t => rec y d (cond t tg nx) ls r bx h n c s) (fun bx' => rec y d pc ls st bx' h n c s) = some L := by
  unfold x_icmp at hx
  match st, hx with
  | [], hx => cases hx
  | [_], hx => cases hx
  | b :: a :: r, hx =>
    obtain ⟨h1, h2⟩ := xcnd hx
    obtain ⟨g1, g2⟩ := xand h1
    exact ⟨b, a, r, rfl, xeqb g1, xeqb g2, h2⟩
theorem x_if_ok {o : Jvm.ClassFile.Cond} (hx : x_if rec nx tg y d pc ls st bx h n c s o = some L) : ∃ a r, st = a :: r ∧ xkd a.1 = 0 ∧ xbr o bx a (0, 0) (fun t => rec y d (cond t tg nx) ls r bx h n c s) (fun bx' => rec y d pc ls st bx' h n c s) = some L := by
  unfold x_if at hx
  match st, hx with
  | [], hx => cases hx
  | a :: r, hx =>
    obtain ⟨h1, h2⟩ := xcnd hx
    exact ⟨a, r, rfl, xeqb h1, h2⟩
theorem x_nul_ok {t : Bool} (hx : x_nul rec nx tg y d ls st bx h n c s t = some L) : ∃ a r, st = a :: r ∧ ((xkd a.1 = 2 ∧ rec y d (cond t nx tg) ls r bx h n c s = some L) ∨ (xkd a.1 = 3 ∧ rec y d (cond t tg nx) ls r bx h n c s = some L)) := by
  unfold x_nul at hx
  match st, hx with
  | [], hx => cases hx
  | a :: r, hx =>
    dsimp only at hx
    refine ⟨a, r, rfl, ?_⟩
    split at hx
    · rename_i e; exact Or.inl ⟨e, hx⟩
    · rename_i e; exact Or.inr ⟨e, hx⟩
    · cases hx
theorem x_ix_ok {i : xv} {k : Nat → xR} (hx : x_ix rec y d pc ls st bx h n c s i k = some L) : (∃ x, xci bx i = some x ∧ x < 2147483648 ∧ k x = some L) ∨ (∃ j q, xspl (fun bx' => rec y d pc ls st bx' h n c s) bx j q = some L) := by
  unfold x_ix at hx
  cases hc : xci bx i with
  | some x => rw [hc] at hx; exact Or.inl ⟨x, rfl, xltb (xcnd hx).1, (xcnd hx).2⟩
  | none =>
    rw [hc] at hx
    exact Or.inr ⟨_, _, (xcnd hx).2⟩
theorem x_cell_ok {k m : Nat} {t : xct} {r : List xv} (hx : x_cell mi rec nx y d ls bx h n c s k m t r = some L) : ∃ q q0, xg mi y = some q ∧ c < q.1 ∧ s + m ≤ q.2.1 ∧ xg h n = some q0 ∧ rec y d nx ls ((4, n) :: r) bx (xw h n (k, m, t)) (n + 1) (c + 1) (s + m) = some L := by
  unfold x_cell at hx
  cases hq : xg mi y with
  | none => rw [hq] at hx; cases hx
  | some q =>
    rw [hq] at hx
    obtain ⟨h1, h2⟩ := xcnd hx
    obtain ⟨g1, g2⟩ := xand h1
    cases hn : xg h n with
    | none => rw [hn] at h2; cases h2
    | some q0 =>
      rw [hn] at h2
      dsimp only at h2
      rw [xsK_eq, xfrc_eq, xfrc_eq, xfrc_eq] at h2
      exact ⟨q, q0, rfl, xltb g1, xleb g2, rfl, h2⟩
theorem x_go_ok {z : Nat} {args rest : List xv} (hx : x_go mi rec nx y d ls bx h n c s z args rest = some L) : ∃ d' q u M, d = d' + 1 ∧ xg mi y = some q ∧ xg mi z = some u ∧ xwds rest ≤ 8 ∧ xwds args ≤ u.2.2.2.2.2 ∧ c + u.1 ≤ q.1 ∧ s + u.2.1 ≤ q.2.1 ∧ rec z d' 0 (xarg 0 args) [] bx h n 0 0 = some M ∧
    ∀ l ∈ M, ∃ L', rec y d nx ls (match l.2.2.2 with
      | none => rest
      | some w => w :: rest) l.1 l.2.1 l.2.2.1 (c + u.1) (s + u.2.1) = some L' ∧ ∀ x ∈ L', x ∈ L := by
  unfold x_go at hx
  match d, hx with
  | 0, hx => cases hx
  | d' + 1, hx =>
    dsimp only at hx
    cases hq : xg mi y with
    | none => rw [hq] at hx; cases hx
    | some q =>
      rw [hq] at hx
      dsimp only at hx
      cases hu : xg mi z with
      | none => rw [hu] at hx; cases hx
      | some u =>
        rw [hu] at hx
        obtain ⟨h1, h2⟩ := xcnd hx
        obtain ⟨g1, g2⟩ := xand h1
        obtain ⟨g3, g4⟩ := xand g1
        obtain ⟨g5, g6⟩ := xand g3
        cases hM : rec z d' 0 (xarg 0 args) [] bx h n 0 0 with
        | none => rw [hM] at h2; cases h2
        | some M =>
          rw [hM] at h2
          dsimp only at h2
          rw [xfrc_eq, xfrc_eq] at h2
          exact ⟨d', q, u, M, rfl, rfl, rfl, xleb g5, xleb g6, xleb g4, xleb g2, hM, fun l hl => xbind_ok h2 l hl⟩
theorem x_call_ok {inst virt : Bool} (hx : x_call mi rec nx r1 y d ls st bx h n c s inst virt = some L) : ∃ u q, xg mi r1 = some u ∧ xpop (cond inst (u.2.2.1 + 1) u.2.2.1) [] st = some q ∧ x_go mi rec nx y d ls bx h n c s r1 q.1 q.2 = some L ∧ (inst = true → ∃ w l, q.1 = w :: l ∧ (cond virt (xrcv u.2.2.2.1 h w) (Nat.beq w.1 4) = true)) := by
  unfold x_call at hx
  cases hu : xg mi r1 with
  | none => rw [hu] at hx; cases hx
  | some u =>
    rw [hu] at hx
    dsimp only at hx
    cases hq : xpop (cond inst (u.2.2.1 + 1) u.2.2.1) [] st with
    | none => rw [hq] at hx; cases hx
    | some q =>
      rw [hq] at hx
      dsimp only at hx
      obtain ⟨q1, q2⟩ := q
      refine ⟨u, (q1, q2), rfl, hq, ?_⟩
      match q1, hx with
      | [], hx =>
        obtain ⟨h1, h2⟩ := xcndn hx
        exact ⟨h2, fun e => by rw [e] at h1; cases h1⟩
      | w :: l, hx =>
        obtain ⟨h1, h2⟩ := xcnd hx
        refine ⟨h2, fun e => ⟨w, l, rfl, ?_⟩⟩
        rw [e] at h1
        exact h1
end Inv
end
section
/-! Rows of the kit in the explorer's words -/
theorem xoff_ii {x z : Int32} : xoff x.toInt = xoff z.toInt ↔ x = z := by
  have h1 := xoff_int x
  have h2 := xoff_int z
  exact ⟨fun q => Int32.toInt_inj.mp (by omega), fun q => by rw [q]⟩
theorem xoff_lt {x z : Int32} : xoff x.toInt < xoff z.toInt ↔ x < z := by
  have h1 := xoff_int x
  have h2 := xoff_int z
  rw [Int32.lt_iff_toInt_lt]
  omega
theorem xoff_le {x z : Int32} : xoff x.toInt ≤ xoff z.toInt ↔ x ≤ z := by
  have h1 := xoff_int x
  have h2 := xoff_int z
  rw [Int32.le_iff_toInt_le]
  omega
theorem xoff_ll {x z : Int64} : xoff x.toInt = xoff z.toInt ↔ x = z := by
  have h1 := xoff_long x
  have h2 := xoff_long z
  exact ⟨fun q => Int64.toInt_inj.mp (by omega), fun q => by rw [q]⟩
theorem xoff_ltL {x z : Int64} : xoff x.toInt < xoff z.toInt ↔ x < z := by
  have h1 := xoff_long x
  have h2 := xoff_long z
  rw [Int64.lt_iff_toInt_lt]
  omega
section XR
variable {p : Program} {l : Launch} {e : Env} {R : Room} {s : State} {m : MethodId} {args : Array Value} {below : List Frame} {meth : Method} {c : Code} {H : Heap} {locs : List Loc} {cells slots : Nat} {Q : State → Prop}
variable {cc : ByteArray} {pc : Nat} {ls : Array Slot} {rest : List Value}
theorem xicmp {o : Jvm.ClassFile.Cond} (hexec : p.tables.exec = Jvm.exec) (hb : c.code = cc) {x z : Int32} {off : Int} {tgt : Nat} (hdg : decode cc pc = .ok (.if_icmp o off, 3)) (ht : (pc : Int) + off = (tgt : Int))
    (kt : xrel o (xoff x.toInt) (xoff z.toInt) → W p l e R s m args below meth c H locs cells slots Q (F0 m tgt ls rest)) (kf : ¬ xrel o (xoff x.toInt) (xoff z.toInt) → W p l e R s m args below meth c H locs cells slots Q (F0 m (pc + 3) ls rest)) : W p l e R s m args below meth c H locs cells slots Q (F0 m pc ls (.int z :: .int x :: rest)) := by
  cases o with
  | eq => exact lv_icmp_eq hexec hb hdg ht (fun q => kt (xoff_ii.mpr q)) (fun q => kf (fun r => q (xoff_ii.mp r)))
  | ne => exact lv_icmp_ne hexec hb hdg ht (fun q => kt (fun r => absurd (xoff_ii.mp r) q)) (fun q => kf (fun r => r (xoff_ii.mpr q)))
  | lt => exact lv_icmp_lt hexec hb hdg ht (fun q => kt (xoff_lt.mpr q)) (fun q => kf (fun r => q (xoff_lt.mp r)))
  | ge => exact lv_icmp_ge hexec hb hdg ht (fun q => kt (xoff_le.mpr q)) (fun q => kf (fun r => q (xoff_le.mp r)))
  | gt => exact lv_icmp_gt hexec hb hdg ht (fun q => kt (xoff_lt.mpr q)) (fun q => kf (fun r => q (xoff_lt.mp r)))
  | le => exact lv_icmp_le hexec hb hdg ht (fun q => kt (xoff_le.mpr q)) (fun q => kf (fun r => q (xoff_le.mp r)))
theorem xifc {o : Jvm.ClassFile.Cond} (hexec : p.tables.exec = Jvm.exec) (hb : c.code = cc) {x : Int32} {off : Int} {tgt : Nat} (hdg : decode cc pc = .ok (.ifCond o off, 3)) (ht : (pc : Int) + off = (tgt : Int))
    (kt : xrel o (xoff x.toInt) (xoff (nI 0).toInt) → W p l e R s m args below meth c H locs cells slots Q (F0 m tgt ls rest)) (kf : ¬ xrel o (xoff x.toInt) (xoff (nI 0).toInt) → W p l e R s m args below meth c H locs cells slots Q (F0 m (pc + 3) ls rest)) : W p l e R s m args below meth c H locs cells slots Q (F0 m pc ls (.int x :: rest)) := by
  rw [nI_0] at kt kf
  cases o with
  | eq => exact lv_if_eq hexec hb hdg ht (fun q => kt (xoff_ii.mpr q)) (fun q => kf (fun r => q (xoff_ii.mp r)))
  | ne => exact lv_if_ne hexec hb hdg ht (fun q => kt (fun r => absurd (xoff_ii.mp r) q)) (fun q => kf (fun r => r (xoff_ii.mpr q)))
  | lt => exact lv_if_lt hexec hb hdg ht (fun q => kt (xoff_lt.mpr q)) (fun q => kf (fun r => q (xoff_lt.mp r)))
  | ge => exact lv_if_ge hexec hb hdg ht (fun q => kt (xoff_le.mpr q)) (fun q => kf (fun r => q (xoff_le.mp r)))
  | gt => exact lv_if_gt hexec hb hdg ht (fun q => kt (xoff_lt.mpr q)) (fun q => kf (fun r => q (xoff_lt.mp r)))
  | le => exact lv_if_le hexec hb hdg ht (fun q => kt (xoff_le.mpr q)) (fun q => kf (fun r => q (xoff_le.mp r)))
theorem xcallW {A : Nat → Prop} {mc ms : Nat} {st0 : List Value} {Qa : State → Outcome → State → Prop} {free : Addr → Prop} (hr : va_Run p l e R s m args below meth c H locs cells slots mc ms (F0 m pc ls st0) rest Qa free) (hL0 : ∀ q ∈ locs, A q.base) (hf : ∀ q, free q → A q)
    (kk : ∀ (v : Option Value) (st₀ t : State) (H1 : Heap) (locs1 : List Loc), st₀.heap = H → t.heap = H1 → s.vm.Alike t.vm → Qa st₀ (.returned v) t → (∀ q ∈ locs1, A q.base) → W p l e R s m args below meth c H1 locs1 (cells + mc) (slots + ms) Q (F0 m (pc + 3) ls (v.toList ++ rest))) : W p l e R s m args below meth c H locs cells slots Q (F0 m pc ls st0) := by
  intro T hT X
  obtain ⟨v, st₀, t, T', L, h0, X', hL, e1, e2, hq, st⟩ := hr T hT X
  obtain ⟨t2, a1, b1⟩ := kk v st₀ t T'.heap (locs ++ L) h0 e1.symm (by rw [← e2]; exact X'.warmed.alike) hq (fun q hq' => (List.mem_append.mp hq').elim (hL0 q) (fun z => hf _ (hL q z))) T' rfl X'
  exact ⟨t2, st t2 a1, b1⟩
end XR
def xtc : FieldType → Nat
  | .int => 0
  | .long => 1
  | .object _ => 2
  | .array _ => 2
  | .boolean => 3
  | _ => 9
theorem nI_bool {n : Nat} (h : n ≤ 1) : nI n = 0 ∨ nI n = 1 := by
  have : n = 0 ∨ n = 1 := by omega
  rcases this with rfl | rfl
  · exact Or.inl rfl
  · exact Or.inr rfl
theorem xfit_ok {sv : Nat → Int32} {ex : Nat → Nat} {as : List Nat} {ty : FieldType} {w : xv} {v : Value} (h : xden sv ex as w v) (hf : xfit (xtc ty) w = true) : narrow ty v = v ∧ fits ty v = true := by
  cases ty with
  | int => obtain ⟨x, rfl⟩ := xden.int sv ex h (xeqb hf); exact ⟨rfl, rfl⟩
  | long => obtain ⟨x, rfl⟩ := xden.long sv ex h (xeqb hf); exact ⟨rfl, rfl⟩
  | object C =>
    rcases xor2 (show (Nat.beq (xkd w.1) 2 || Nat.beq (xkd w.1) 3) = true from hf) with q | q
    · obtain ⟨x, rfl⟩ := xden.ref sv ex h (xeqb q); exact ⟨rfl, rfl⟩
    · rw [xden.nul sv ex h (xeqb q)]; exact ⟨rfl, rfl⟩
  | array C =>
    rcases xor2 (show (Nat.beq (xkd w.1) 2 || Nat.beq (xkd w.1) 3) = true from hf) with q | q
    · obtain ⟨x, rfl⟩ := xden.ref sv ex h (xeqb q); exact ⟨rfl, rfl⟩
    · rw [xden.nul sv ex h (xeqb q)]; exact ⟨rfl, rfl⟩
  | boolean =>
    obtain ⟨q1, q2⟩ := xand (show (Nat.beq w.1 0 && Nat.ble w.2 1) = true from hf)
    obtain ⟨t, n⟩ := w
    have e : t = 0 := xeqb q1
    subst e
    rw [show v = .int (nI n) from h]
    rcases nI_bool (xleb q2) with q | q <;> rw [q] <;> exact ⟨rfl, rfl⟩
  | _ => cases hf
def xdv (ty : FieldType) (w : xv) : Bool :=
  match xtc ty with
  | 0 => Nat.beq w.1 0 && Nat.beq w.2 0
  | 1 => Nat.beq w.1 2 && Nat.beq w.2 0
  | 2 => Nat.beq w.1 5
  | 3 => Nat.beq w.1 0 && Nat.beq w.2 0
  | _ => false
theorem xdv_ok {sv : Nat → Int32} {ex : Nat → Nat} {as : List Nat} {ty : FieldType} {w : xv} (h : xdv ty w = true) : xden sv ex as w (defaultValue ty) := by
  obtain ⟨t, n⟩ := w
  cases ty with
  | int =>
    obtain ⟨q1, q2⟩ := xand (show (Nat.beq t 0 && Nat.beq n 0) = true from h)
    have e1 : t = 0 := xeqb q1
    have e2 : n = 0 := xeqb q2
    subst e1; subst e2; rfl
  | boolean =>
    obtain ⟨q1, q2⟩ := xand (show (Nat.beq t 0 && Nat.beq n 0) = true from h)
    have e1 : t = 0 := xeqb q1
    have e2 : n = 0 := xeqb q2
    subst e1; subst e2; rfl
  | long =>
    obtain ⟨q1, q2⟩ := xand (show (Nat.beq t 2 && Nat.beq n 0) = true from h)
    have e1 : t = 2 := xeqb q1
    have e2 : n = 0 := xeqb q2
    subst e1; subst e2; rfl
  | object C =>
    have e1 : t = 5 := xeqb h
    subst e1; rfl
  | array C =>
    have e1 : t = 5 := xeqb h
    subst e1; rfl
  | _ => cases h
theorem xstR_cons {sv : Nat → Int32} {ex : Nat → Nat} {as : List Nat} {w : xv} {r : List xv} {stv : List Value} (h : xstR sv ex as (w :: r) stv) : ∃ v m, stv = v :: m ∧ xden sv ex as w v ∧ xstR sv ex as r m := by
  match stv, h with
  | [], h => exact h.elim
  | v :: m, h => exact ⟨v, m, rfl, h.1, h.2⟩
theorem xstR_nil {sv : Nat → Int32} {ex : Nat → Nat} {as : List Nat} {stv : List Value} (h : xstR sv ex as [] stv) : stv = [] := by
  match stv, h with
  | [], _ => rfl
  | _ :: _, h => exact h.elim
theorem nI_sub (a b : Nat) : nI ((a + (4294967296 - b % 4294967296)) % 4294967296) = nI a - nI b := by
  rw [x32]
  apply Int32.toBitVec_inj.mp
  show BitVec.ofNat 32 (a + (4294967296 - b % 4294967296)) = BitVec.ofNat 32 a - BitVec.ofNat 32 b
  apply BitVec.eq_of_toNat_eq
  rw [BitVec.toNat_sub, BitVec.toNat_ofNat, BitVec.toNat_ofNat, BitVec.toNat_ofNat]
  simp only [show (2 : Nat) ^ 32 = 4294967296 from rfl]
  omega
theorem nI_c65 (x : Nat) : ((nI x).toUInt32 % 65536).toInt32 = nI (x % 65536) := by
  rw [pk_char]
  show nI ((BitVec.ofNat 32 x).toNat % 65536) = _
  rw [BitVec.toNat_ofNat]
  congr 1
  omega
theorem lN_l2i (n : Nat) : (lN n).toInt32 = nI n := lN_i n
theorem nI_z {n : Nat} (h : n % 4294967296 ≠ 0) : ¬ nI n = 0 := by
  intro q
  have := nI_int n
  rw [q, Int32.toInt_zero] at this
  split at this <;> omega
theorem lN_z {n : Nat} (h : n % 18446744073709551616 ≠ 0) : ¬ lN n = 0 := by
  intro q
  have := lN_int n
  rw [q] at this
  have e0 : (0 : Int64).toInt = 0 := rfl
  rw [e0] at this
  split at this <;> omega
theorem xr1 {n : Nat} (h : n < 65536) : narrow .char (.int (nI n)) = .int (nI n) := (pk_charN h).1
theorem xr2 {n : Nat} (h : n < 128) : narrow .byte (.int (nI n)) = .int (nI n) := by
  show Value.int (nI n).toInt8.toInt32 = _
  have e : (nI n).toInt8.toInt32 = nI n := by
    apply Int32.toInt_inj.mp
    rw [nI_toInt (by omega)]
    show ((nI n).toInt8).toInt32.toInt = _
    rw [Int8.toInt_toInt32, Int32.toInt_toInt8, nI_toInt (by omega)]
    rw [Int.bmod_eq_of_le (by omega) (by omega)]
  rw [e]
end
