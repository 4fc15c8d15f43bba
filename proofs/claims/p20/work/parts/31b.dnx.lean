/-! Runs as a function: what one instruction does to locals (a function), stack and numbers; nothing is checked here -/
abbrev dlf : Type := Nat → cv
abbrev dO : Type := (Nat × dlf × List cv × cg) ⊕ (Option cv ⊕ (List cv × List cv))
abbrev dF : Type := Nat → Nat → dlf → List cv → cg → Option (cg × Option cv)
def w32 (z : Int) : Int := (z + 2147483648) % 4294967296 - 2147483648
def w64 (z : Int) : Int := (z + 9223372036854775808) % 18446744073709551616 - 9223372036854775808
theorem i32_w (z : Int) : (i32 z).toInt = w32 z := by
  unfold i32
  rw [nI_int]
  unfold c32 w32
  split <;> omega
theorem i64_w (z : Int) : (i64 z).toInt = w64 z := by
  unfold i64
  rw [lN_int]
  unfold c64 w64
  split <;> omega
theorem nI_w (n : Nat) : (nI n).toInt = w32 (n : Int) := by
  rw [nI_int]
  unfold w32
  split <;> omega
theorem lN_w (n : Nat) : (lN n).toInt = w64 (n : Int) := by
  rw [lN_int]
  unfold w64
  split <;> omega
def dset (lf : dlf) (i : Nat) (v : cv) : dlf := fun j => cond (Nat.beq j i) v (lf j)
def dnxt (pc : Nat) (lf : dlf) (st : List cv) (g : cg) : Option dO := some (.inl (pc, lf, st, g))
/-- what a place of a cell holds -/
noncomputable def dval (h0 : xheap) (g : cg) (k j : Nat) : cv := match xg h0 k with
  | none => (0, 0)
  | some q => match xg q.2.2 j with
    | none => (0, 0)
    | some w => cval w (g k j)
noncomputable def dln (h0 : xheap) (k : Nat) : Nat := match xg h0 k with
  | none => 0
  | some q => q.2.1
def d_sto (nx r1 : Nat) (lf : dlf) (st : List cv) (g : cg) : Option dO := match st with
  | v :: r => dnxt nx (dset lf r1 v) r g
  | _ => none
def d_bi (F : Int32 → Int32 → Int32) (nx : Nat) (lf : dlf) (st : List cv) (g : cg) : Option dO := match st with
  | b :: a :: r => dnxt nx lf ((0, (F (i32 a.2) (i32 b.2)).toInt) :: r) g
  | _ => none
def d_bl (F : Int64 → Int64 → Int64) (nx : Nat) (lf : dlf) (st : List cv) (g : cg) : Option dO := match st with
  | b :: a :: r => dnxt nx lf ((2, (F (i64 a.2) (i64 b.2)).toInt) :: r) g
  | _ => none
def d_sl (F : Int64 → Int32 → Int64) (nx : Nat) (lf : dlf) (st : List cv) (g : cg) : Option dO := match st with
  | b :: a :: r => dnxt nx lf ((2, (F (i64 a.2) (i32 b.2)).toInt) :: r) g
  | _ => none
def d_adi (f : Int → Int → Int) (nx : Nat) (lf : dlf) (st : List cv) (g : cg) : Option dO := match st with
  | b :: a :: r => dnxt nx lf ((0, w32 (f a.2 b.2)) :: r) g
  | _ => none
def d_adl (f : Int → Int → Int) (nx : Nat) (lf : dlf) (st : List cv) (g : cg) : Option dO := match st with
  | b :: a :: r => dnxt nx lf ((2, w64 (f a.2 b.2)) :: r) g
  | _ => none
theorem d_adi_ok {f : Int → Int → Int} {F : Int32 → Int32 → Int32} (h : ∀ a b, F (i32 a) (i32 b) = i32 (f a b)) (nx : Nat) (lf : dlf) (st : List cv) (g : cg) : d_adi f nx lf st g = d_bi F nx lf st g := by
  match st with
  | [] => rfl
  | [_] => rfl
  | b :: a :: r =>
    show dnxt nx lf ((0, w32 (f a.2 b.2)) :: r) g = dnxt nx lf ((0, (F (i32 a.2) (i32 b.2)).toInt) :: r) g
    rw [h, i32_w]
theorem d_adl_ok {f : Int → Int → Int} {F : Int64 → Int64 → Int64} (h : ∀ a b, F (i64 a) (i64 b) = i64 (f a b)) (nx : Nat) (lf : dlf) (st : List cv) (g : cg) : d_adl f nx lf st g = d_bl F nx lf st g := by
  match st with
  | [] => rfl
  | [_] => rfl
  | b :: a :: r =>
    show dnxt nx lf ((2, w64 (f a.2 b.2)) :: r) g = dnxt nx lf ((2, (F (i64 a.2) (i64 b.2)).toInt) :: r) g
    rw [h, i64_w]
theorem d_k0 (nx r1 : Nat) (lf : dlf) (st : List cv) (g : cg) : dnxt nx lf ((0, w32 (r1 : Int)) :: st) g = dnxt nx lf ((0, (nI r1).toInt) :: st) g := by rw [nI_w]
theorem d_k2 (nx r1 : Nat) (lf : dlf) (st : List cv) (g : cg) : dnxt nx lf ((2, w64 (r1 : Int)) :: st) g = dnxt nx lf ((2, (lN r1).toInt) :: st) g := by rw [lN_w]
def d_ui (F : Int32 → Int32) (nx : Nat) (lf : dlf) (st : List cv) (g : cg) : Option dO := match st with
  | a :: r => dnxt nx lf ((0, (F (i32 a.2)).toInt) :: r) g
  | _ => none
def d_nul (nx tg : Nat) (t : Bool) (lf : dlf) (st : List cv) (g : cg) : Option dO := match st with
  | v :: r => dnxt (cond (Nat.beq (xkd v.1) 2) (cond t nx tg) (cond t tg nx)) lf r g
  | _ => none
noncomputable def d_ald (h0 : xheap) (sv : Nat → Int32) (eb : Nat → List Nat) (kd nx : Nat) (lf : dlf) (st : List cv) (g : cg) : Option dO := match st with
  | i :: w :: r => dnxt nx lf ((cond (Nat.beq w.1 4) (dval h0 g w.2.toNat i.2.toNat) (cond (Nat.beq kd 13) (0, (sv i.2.toNat).toInt) (0, (nI ((eb w.2.toNat).getD i.2.toNat 0)).toInt))) :: r) g
  | _ => none
def d_ast (kd nx : Nat) (lf : dlf) (st : List cv) (g : cg) : Option dO := match st with
  | v :: i :: w :: r => dnxt nx lf r (cup g w.2.toNat i.2.toNat (cstv kd v).2)
  | _ => none
noncomputable def d_call (mi : xmi) (r1 : Nat) (inst : Bool) (st : List cv) : Option dO := match xg mi r1 with
  | none => none
  | some u => match cpop (cond inst (u.2.2.1 + 1) u.2.2.1) [] st with
    | none => none
    | some q => some (.inr (.inr q))
def d_dup (nx : Nat) (lf : dlf) (st : List cv) (g : cg) : Option dO := match st with
  | a :: r => dnxt nx lf (a :: a :: r) g
  | _ => none
def d_pop (nx : Nat) (lf : dlf) (st : List cv) (g : cg) : Option dO := match st with
  | _ :: r => dnxt nx lf r g
  | _ => none
def d_dup2 (nx : Nat) (lf : dlf) (st : List cv) (g : cg) : Option dO := match st with
  | a :: r => cond (Nat.beq (xkd a.1) 1) (dnxt nx lf (a :: a :: r) g) (match r with
    | b :: r' => dnxt nx lf (a :: b :: a :: b :: r') g
    | _ => none)
  | _ => none
def d_icmp (o : Jvm.ClassFile.Cond) (nx tg : Nat) (lf : dlf) (st : List cv) (g : cg) : Option dO := match st with
  | b :: a :: r => dnxt (cond (crel o a.2 b.2) tg nx) lf r g
  | _ => none
def d_if (o : Jvm.ClassFile.Cond) (nx tg : Nat) (lf : dlf) (st : List cv) (g : cg) : Option dO := match st with
  | a :: r => dnxt (cond (crel o a.2 0) tg nx) lf r g
  | _ => none
def d_lcmp (nx : Nat) (lf : dlf) (st : List cv) (g : cg) : Option dO := match st with
  | b :: a :: r => dnxt nx lf ((0, csgn (a.2 - b.2)) :: r) g
  | _ => none
def d_i2l (nx : Nat) (lf : dlf) (st : List cv) (g : cg) : Option dO := match st with
  | a :: r => dnxt nx lf ((2, a.2) :: r) g
  | _ => none
def d_l2i (nx : Nat) (lf : dlf) (st : List cv) (g : cg) : Option dO := match st with
  | a :: r => dnxt nx lf ((0, (i64 a.2).toInt32.toInt) :: r) g
  | _ => none
def d_tab (a b e : Int) (f : Array Int) (pc : Nat) (lf : dlf) (st : List cv) (g : cg) : Option dO := match st with
  | z :: r => (match xts a b e f pc z.2 with
    | none => none
    | some t => dnxt t lf r g)
  | _ => none
def d_lkp (a : Int) (f : Array (Int × Int)) (pc : Nat) (lf : dlf) (st : List cv) (g : cg) : Option dO := match st with
  | z :: r => dnxt ((pc : Int) + Op.lookupswitch.offset f.toList a z.2).toNat lf r g
  | _ => none
noncomputable def d_get (h0 : xheap) (nx r2 : Nat) (lf : dlf) (st : List cv) (g : cg) : Option dO := match st with
  | w :: r => dnxt nx lf ((cond (Nat.beq w.1 4) (dval h0 g w.2.toNat r2) (cond (Nat.beq r2 0) (6, w.2 + 1) (0, 0))) :: r) g
  | _ => none
def d_put (nx r2 : Nat) (lf : dlf) (st : List cv) (g : cg) : Option dO := match st with
  | v :: w :: r => dnxt nx lf r (cup g w.2.toNat r2 v.2)
  | _ => none
noncomputable def d_len (h0 : xheap) (el : Nat → Nat) (nx : Nat) (lf : dlf) (st : List cv) (g : cg) : Option dO := match st with
  | w :: r => dnxt nx lf ((0, cond (Nat.beq w.1 4) (dln h0 w.2.toNat : Int) (el w.2.toNat : Int)) :: r) g
  | _ => none
def d_cpy (nx : Nat) (lf : dlf) (st : List cv) (g : cg) : Option dO := match st with
  | m :: dp :: b :: sp :: a :: r => dnxt nx lf r (ccp g a.2.toNat b.2.toNat sp.2.toNat dp.2.toNat m.2.toNat)
  | _ => none
def d_rv (k : Nat) (st : List cv) : Option dO := match st with
  | [v] => some (.inr (.inl (some (k, v.2))))
  | _ => none
noncomputable def dnx (h0 : xheap) (sv : Nat → Int32) (mi : xmi) (el : Nat → Nat) (eb : Nat → List Nat) (ins : Instr) (nx tg r1 r2 pc : Nat) (lf : dlf) (st : List cv) (g : cg) : Option dO :=
  match ins with
  | .iconst _ => dnxt nx lf ((0, w32 (r1 : Int)) :: st) g
  | .bipush _ => dnxt nx lf ((0, w32 (r1 : Int)) :: st) g
  | .sipush _ => dnxt nx lf ((0, w32 (r1 : Int)) :: st) g
  | .ldc_w _ => dnxt nx lf ((0, w32 (r1 : Int)) :: st) g
  | .ldc _ => cond (Nat.beq r2 0) (dnxt nx lf ((0, w32 (r1 : Int)) :: st) g) (cond (Nat.beq r2 1) (dnxt nx lf ((6, 1) :: st) g) (dnxt nx lf ((6, 3) :: st) g))
  | .lconst _ => dnxt nx lf ((2, w64 (r1 : Int)) :: st) g
  | .ldc2_w _ => dnxt nx lf ((2, w64 (r1 : Int)) :: st) g
  | .aconst_null => dnxt nx lf ((5, 0) :: st) g
  | .iload _ => dnxt nx lf (lf r1 :: st) g
  | .iload_n _ => dnxt nx lf (lf r1 :: st) g
  | .lload _ => dnxt nx lf (lf r1 :: st) g
  | .lload_n _ => dnxt nx lf (lf r1 :: st) g
  | .aload _ => dnxt nx lf (lf r1 :: st) g
  | .aload_n _ => dnxt nx lf (lf r1 :: st) g
  | .istore _ => d_sto nx r1 lf st g
  | .istore_n _ => d_sto nx r1 lf st g
  | .lstore _ => d_sto nx r1 lf st g
  | .lstore_n _ => d_sto nx r1 lf st g
  | .astore _ => d_sto nx r1 lf st g
  | .astore_n _ => d_sto nx r1 lf st g
  | .iinc _ _ => dnxt nx (dset lf r1 (0, w32 ((lf r1).2 + w32 (r2 : Int)))) st g
  | .iadd => d_adi (fun x z => x + z) nx lf st g
  | .isub => d_adi (fun x z => x - z) nx lf st g
  | .imul => d_adi (fun x z => x * z) nx lf st g
  | .idiv => d_bi (fun x z => x / z) nx lf st g
  | .irem => d_bi (fun x z => x - x / z * z) nx lf st g
  | .ineg => d_ui (fun x => -x) nx lf st g
  | .iand => d_bi (fun x z => x &&& z) nx lf st g
  | .ior => d_bi (fun x z => x ||| z) nx lf st g
  | .ishl => d_bi (fun x z => x <<< (z &&& 31)) nx lf st g
  | .ishr => d_bi (fun x z => x >>> (z &&& 31)) nx lf st g
  | .iushr => d_bi (fun x z => (x.toUInt32 >>> (z.toUInt32 &&& Int32.toUInt32 31)).toInt32) nx lf st g
  | .ladd => d_adl (fun x z => x + z) nx lf st g
  | .lsub => d_adl (fun x z => x - z) nx lf st g
  | .lmul => d_adl (fun x z => x * z) nx lf st g
  | .ldiv => d_bl (fun x z => x / z) nx lf st g
  | .lrem => d_bl (fun x z => x - x / z * z) nx lf st g
  | .land => d_bl (fun x z => x &&& z) nx lf st g
  | .lor => d_bl (fun x z => x ||| z) nx lf st g
  | .lshl => d_sl (fun x z => x <<< (z.toInt64 &&& 63)) nx lf st g
  | .lshr => d_sl (fun x z => x >>> (z.toInt64 &&& 63)) nx lf st g
  | .i2l => d_i2l nx lf st g
  | .l2i => d_l2i nx lf st g
  | .i2b => d_ui (fun x => x.toInt8.toInt32) nx lf st g
  | .i2s => d_ui (fun x => x.toInt16.toInt32) nx lf st g
  | .i2c => d_ui (fun x => (x.toUInt32 % 65536).toInt32) nx lf st g
  | .dup => d_dup nx lf st g
  | .pop => d_pop nx lf st g
  | .pop2 => d_pop nx lf st g
  | .dup2 => d_dup2 nx lf st g
  | .goto _ => dnxt tg lf st g
  | .if_icmp o _ => d_icmp o nx tg lf st g
  | .ifCond o _ => d_if o nx tg lf st g
  | .ifnull _ => d_nul nx tg true lf st g
  | .ifnonnull _ => d_nul nx tg false lf st g
  | .lcmp => d_lcmp nx lf st g
  | .tableswitch a b e f => d_tab a b e f pc lf st g
  | .lookupswitch a f => d_lkp a f pc lf st g
  | .getfield _ => d_get h0 nx r2 lf st g
  | .putfield _ => d_put nx r2 lf st g
  | .getstatic _ => cond (Nat.beq r1 0) (dnxt nx lf ((0, 1) :: st) g) (dnxt nx lf ((10, 0) :: st) g)
  | .arraylength => d_len h0 el nx lf st g
  | .iaload => d_ald h0 sv eb 13 nx lf st g
  | .laload => d_ald h0 sv eb 14 nx lf st g
  | .baload => d_ald h0 sv eb 15 nx lf st g
  | .aaload => d_ald h0 sv eb 20 nx lf st g
  | .iastore => d_ast 13 nx lf st g
  | .lastore => d_ast 14 nx lf st g
  | .bastore => d_ast 15 nx lf st g
  | .invokevirtual _ => d_call mi r1 true st
  | .invokestatic _ => cond (Nat.beq r2 8) (d_cpy nx lf st g) (d_call mi r1 false st)
  | .return_ => some (.inr (.inl none))
  | .ireturn => d_rv 0 st
  | .lreturn => d_rv 2 st
  | _ => none
/-- the locals that a call begins with -/
def darg : Nat → List cv → dlf
  | _, [], _ => (0, 0)
  | i, w :: l, j => cond (Nat.beq j i) w (darg (cond (Nat.beq (xkd w.1) 1) (i + 2) (i + 1)) l j)
theorem darg_ok : ∀ (i : Nat) (l : List cv), (∀ q ∈ carg i l, darg i l q.1 = q.2) ∧ ∀ q ∈ carg i l, i ≤ q.1
  | _, [] => ⟨fun _ h => absurd h List.not_mem_nil, fun _ h => absurd h List.not_mem_nil⟩
  | i, w :: l => by
    obtain ⟨h1, h2⟩ := darg_ok (cond (Nat.beq (xkd w.1) 1) (i + 2) (i + 1)) l
    have hi : i + 1 ≤ cond (Nat.beq (xkd w.1) 1) (i + 2) (i + 1) := by cases Nat.beq (xkd w.1) 1 <;> simp
    refine ⟨fun q hq => ?_, fun q hq => ?_⟩
    · rcases List.mem_cons.mp hq with e | hq
      · rw [e]
        show cond (Nat.beq i i) w _ = w
        rw [Nat.beq_refl]; rfl
      · have h3 := h2 q hq
        show cond (Nat.beq q.1 i) w _ = q.2
        have : Nat.beq q.1 i = false := by
          cases hb : Nat.beq q.1 i with
          | false => rfl
          | true => have := xeqb hb; omega
        rw [this]
        exact h1 q hq
    · rcases List.mem_cons.mp hq with e | hq
      · rw [e]; exact Nat.le_refl _
      · have := h2 q hq; omega
section DV
variable (cd : xcd) (h0 : xheap) (sv : Nat → Int32) (mi : xmi) (el : Nat → Nat) (eb : Nat → List Nat)
/-- what becomes of what one instruction does -/
def dcnt (rec : dF) (y nx r1 : Nat) (lf : dlf) (g : cg) : Option dO → Option (cg × Option cv)
  | none => none
  | some (.inl q) => rec y q.1 q.2.1 q.2.2.1 q.2.2.2
  | some (.inr (.inl rv)) => some (g, rv)
  | some (.inr (.inr q)) => match rec r1 0 (darg 0 q.1) [] g with
    | none => none
    | some o => rec y nx lf (cpsh o.2 q.2) o.1
noncomputable def dstep (rec : dF) : dF := fun y pc lf st g => match xg cd y with
  | none => none
  | some t => match xg t pc with
    | none => none
    | some e => dcnt rec y e.2.1 e.2.2.2.1 lf g (dnx h0 sv mi el eb e.1 e.2.1 e.2.2.1 e.2.2.2.1 e.2.2.2.2 pc lf st g)
noncomputable def dv (f : Nat) : dF := Nat.rec (motive := fun _ => dF) (fun _ _ _ _ _ => none) (fun _ r => dstep cd h0 sv mi el eb r) f
end DV
section DVM
variable {cd : xcd} {h0 : xheap} {sv : Nat → Int32} {mi : xmi} {el : Nat → Nat} {eb : Nat → List Nat}
theorem dcnt_mono {r r' : dF} (hr : ∀ y pc lf st g o, r y pc lf st g = some o → r' y pc lf st g = some o) {y nx r1 : Nat} {lf : dlf} {g : cg} : ∀ {w : Option dO} {o : cg × Option cv}, dcnt r y nx r1 lf g w = some o → dcnt r' y nx r1 lf g w = some o
  | none, _, h => by cases h
  | some (.inl _), _, h => hr _ _ _ _ _ _ h
  | some (.inr (.inl _)), _, h => h
  | some (.inr (.inr q)), o, h => by
    have h : (match r r1 0 (darg 0 q.1) [] g with
      | none => none
      | some o => r y nx lf (cpsh o.2 q.2) o.1) = some o := h
    show (match r' r1 0 (darg 0 q.1) [] g with
      | none => none
      | some o => r' y nx lf (cpsh o.2 q.2) o.1) = some o
    cases h1 : r r1 0 (darg 0 q.1) [] g with
    | none => rw [h1] at h; cases h
    | some o1 =>
      rw [h1] at h
      rw [hr _ _ _ _ _ _ h1]
      exact hr _ _ _ _ _ _ h
theorem dv_succ (f : Nat) : dv cd h0 sv mi el eb (f + 1) = dstep cd h0 sv mi el eb (dv cd h0 sv mi el eb f) := rfl
theorem dstep_mono {r r' : dF} (hr : ∀ y pc lf st g o, r y pc lf st g = some o → r' y pc lf st g = some o) {y pc : Nat} {lf : dlf} {st : List cv} {g : cg} {o : cg × Option cv} (h : dstep cd h0 sv mi el eb r y pc lf st g = some o) : dstep cd h0 sv mi el eb r' y pc lf st g = some o := by
  unfold dstep at h ⊢
  cases h1 : xg cd y with
  | none => rw [h1] at h; cases h
  | some t =>
    rw [h1] at h
    dsimp only at h ⊢
    cases h2 : xg t pc with
    | none => rw [h2] at h; cases h
    | some e =>
      rw [h2] at h
      exact dcnt_mono hr h
theorem dv_mono1 : ∀ (f : Nat) (y pc : Nat) (lf : dlf) (st : List cv) (g : cg) (o : cg × Option cv), dv cd h0 sv mi el eb f y pc lf st g = some o → dv cd h0 sv mi el eb (f + 1) y pc lf st g = some o
  | 0, _, _, _, _, _, _, h => by cases h
  | f + 1, y, pc, lf, st, g, o, h => by
    rw [dv_succ] at h ⊢
    exact dstep_mono (dv_mono1 f) h
theorem dv_mono {f f' : Nat} (hf : f ≤ f') {y pc : Nat} {lf : dlf} {st : List cv} {g : cg} {o : cg × Option cv} (h : dv cd h0 sv mi el eb f y pc lf st g = some o) : dv cd h0 sv mi el eb f' y pc lf st g = some o := by
  induction hf with
  | refl => exact h
  | step _ ih => exact dv_mono1 _ _ _ _ _ _ _ ih
theorem dv_fun {f f' : Nat} {y pc : Nat} {lf : dlf} {st : List cv} {g : cg} {o o' : cg × Option cv} (h : dv cd h0 sv mi el eb f y pc lf st g = some o) (h' : dv cd h0 sv mi el eb f' y pc lf st g = some o') : o = o' := by
  have h1 := dv_mono (Nat.le_max_left f f') h
  have h2 := dv_mono (Nat.le_max_right f f') h'
  exact Option.some.inj (h1.symm.trans h2)
theorem dv_at {y pc : Nat} {e : xins} (hc : cC cd y pc e) (f : Nat) (lf : dlf) (st : List cv) (g : cg) : dv cd h0 sv mi el eb (f + 1) y pc lf st g = dcnt (dv cd h0 sv mi el eb f) y e.2.1 e.2.2.2.1 lf g (dnx h0 sv mi el eb e.1 e.2.1 e.2.2.1 e.2.2.2.1 e.2.2.2.2 pc lf st g) := by
  obtain ⟨t, h1, h2⟩ := hc
  rw [dv_succ]
  unfold dstep
  rw [h1]
  dsimp only
  rw [h2]
end DVM
