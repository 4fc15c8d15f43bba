/-! What the explorer's values, cells and frames say of the machine's -/
section Rel
variable (sv : Nat → Int32) (ex : Nat → Nat)
def xoff (z : Int) : Nat := (z + 9223372036854775808).toNat
def xden (as : List Nat) (w : xv) (v : Value) : Prop :=
  match w.1 with
  | 0 => v = .int (nI w.2)
  | 1 => v = .int (sv w.2)
  | 2 => v = .long (lN w.2)
  | 3 => v = .long (sv w.2).toInt64
  | 4 => ∃ a, as[w.2]? = some a ∧ v = .ref a
  | 5 => v = .null
  | 6 => v = .ref (ex w.2)
  | 7 => ∃ x, v = .int x
  | 8 => ∃ x, v = .long x
  | 10 => v = .null ∨ ∃ a, v = .ref a
  | _ => False
def xle (as as' : List Nat) : Prop := ∀ (k a : Nat), as[k]? = some a → as'[k]? = some a
theorem xle.rf (as : List Nat) : xle as as := fun _ _ h => h
theorem xle.tr {a b c : List Nat} (h : xle a b) (k : xle b c) : xle a c := fun i x q => k i x (h i x q)
theorem xle.push (as : List Nat) (q : Nat) : xle as (as ++ [q]) := fun i x h => by
  have hl := (List.getElem?_eq_some_iff.mp h).1
  rw [List.getElem?_append_left hl]; exact h
theorem xden.mono {as as' : List Nat} (hl : xle as as') : ∀ {w : xv} {v : Value}, xden sv ex as w v → xden sv ex as' w v
  | (0, _), _, h => h
  | (1, _), _, h => h
  | (2, _), _, h => h
  | (3, _), _, h => h
  | (4, n), v, h => by
    obtain ⟨a, h1, h2⟩ : ∃ a : Nat, as[n]? = some a ∧ v = .ref a := h
    exact ⟨a, hl _ _ h1, h2⟩
  | (5, _), _, h => h
  | (6, _), _, h => h
  | (7, _), _, h => h
  | (8, _), _, h => h
  | (9, _), _, h => h.elim
  | (10, _), _, h => h
  | (_ + 11, _), _, h => h.elim
theorem xden.int {as : List Nat} : ∀ {w : xv} {v : Value}, xden sv ex as w v → xkd w.1 = 0 → ∃ x, v = .int x
  | (0, _), _, h, _ => ⟨_, h⟩
  | (1, _), _, h, _ => ⟨_, h⟩
  | (2, _), _, _, k => by cases k
  | (3, _), _, _, k => by cases k
  | (4, _), _, _, k => by cases k
  | (5, _), _, _, k => by cases k
  | (6, _), _, _, k => by cases k
  | (7, _), _, h, _ => h
  | (8, _), _, _, k => by cases k
  | (9, _), _, h, _ => h.elim
  | (10, _), _, _, k => by cases k
  | (_ + 11, _), _, h, _ => h.elim
theorem xden.long {as : List Nat} : ∀ {w : xv} {v : Value}, xden sv ex as w v → xkd w.1 = 1 → ∃ x, v = .long x
  | (0, _), _, _, k => by cases k
  | (1, _), _, _, k => by cases k
  | (2, _), _, h, _ => ⟨_, h⟩
  | (3, _), _, h, _ => ⟨_, h⟩
  | (4, _), _, _, k => by cases k
  | (5, _), _, _, k => by cases k
  | (6, _), _, _, k => by cases k
  | (7, _), _, _, k => by cases k
  | (8, _), _, h, _ => h
  | (9, _), _, h, _ => h.elim
  | (10, _), _, _, k => by cases k
  | (_ + 11, _), _, h, _ => h.elim
theorem xden.ref {as : List Nat} : ∀ {w : xv} {v : Value}, xden sv ex as w v → xkd w.1 = 2 → ∃ x, v = .ref x
  | (0, _), _, _, k => by cases k
  | (1, _), _, _, k => by cases k
  | (2, _), _, _, k => by cases k
  | (3, _), _, _, k => by cases k
  | (4, n), v, h, _ => by
    obtain ⟨a, h1, h2⟩ : ∃ a : Nat, as[n]? = some a ∧ v = .ref a := h
    exact ⟨a, h2⟩
  | (5, _), _, _, k => by cases k
  | (6, _), _, h, _ => ⟨_, h⟩
  | (7, _), _, _, k => by cases k
  | (8, _), _, _, k => by cases k
  | (9, _), _, h, _ => h.elim
  | (10, _), _, _, k => by cases k
  | (_ + 11, _), _, h, _ => h.elim
theorem xden.nul {as : List Nat} : ∀ {w : xv} {v : Value}, xden sv ex as w v → xkd w.1 = 3 → v = .null
  | (0, _), _, _, k => by cases k
  | (1, _), _, _, k => by cases k
  | (2, _), _, _, k => by cases k
  | (3, _), _, _, k => by cases k
  | (4, _), _, _, k => by cases k
  | (5, _), _, h, _ => h
  | (6, _), _, _, k => by cases k
  | (7, _), _, _, k => by cases k
  | (8, _), _, _, k => by cases k
  | (9, _), _, h, _ => h.elim
  | (10, _), _, _, k => by cases k
  | (_ + 11, _), _, h, _ => h.elim
theorem xden.cat {as : List Nat} : ∀ {w : xv} {v : Value}, xden sv ex as w v → v.category = cond (Nat.beq (xkd w.1) 1) 2 1
  | (0, _), _, h => by rw [show _ = _ from h]; rfl
  | (1, _), _, h => by rw [show _ = _ from h]; rfl
  | (2, _), _, h => by rw [show _ = _ from h]; rfl
  | (3, _), _, h => by rw [show _ = _ from h]; rfl
  | (4, n), v, h => by
    obtain ⟨a, h1, h2⟩ : ∃ a : Nat, as[n]? = some a ∧ v = .ref a := h
    rw [h2]; rfl
  | (5, _), _, h => by rw [show _ = _ from h]; rfl
  | (6, _), _, h => by rw [show _ = _ from h]; rfl
  | (7, n), v, h => by
    obtain ⟨x, h⟩ : ∃ x : Int32, v = .int x := h
    rw [h]; rfl
  | (8, n), v, h => by
    obtain ⟨x, h⟩ : ∃ x : Int64, v = .long x := h
    rw [h]; rfl
  | (9, _), _, h => h.elim
  | (10, n), v, h => by
    rcases (show v = .null ∨ ∃ a, v = .ref a from h) with h | ⟨a, h⟩ <;> rw [h] <;> rfl
  | (_ + 11, _), _, h => h.elim
theorem xden.own {as : List Nat} {w : xv} {v : Value} (h : xden sv ex as w v) (hw : w.1 = 4) : ∃ a, as[w.2]? = some a ∧ v = .ref a := by
  obtain ⟨t, n⟩ := w
  cases hw
  exact h
theorem xden.ext {as : List Nat} {w : xv} {v : Value} (h : xden sv ex as w v) (hw : w.1 = 6) : v = .ref (ex w.2) := by
  obtain ⟨t, n⟩ := w
  cases hw
  exact h
/-! numbers -/
theorem x32 (n : Nat) : nI (n % 4294967296) = nI n := by
  apply Int32.toBitVec_inj.mp
  show BitVec.ofNat 32 (n % 4294967296) = BitVec.ofNat 32 n
  apply BitVec.eq_of_toNat_eq
  simp
theorem x64 (n : Nat) : lN (n % 18446744073709551616) = lN n := by
  apply Int64.toBitVec_inj.mp
  show BitVec.ofNat 64 (n % 18446744073709551616) = BitVec.ofNat 64 n
  apply BitVec.eq_of_toNat_eq
  simp
theorem nI_xnu (x : Int32) : nI (xnu x) = x := by
  apply Int32.toBitVec_inj.mp
  show BitVec.ofNat 32 x.toBitVec.toNat = x.toBitVec
  simp
theorem lN_xnl (x : Int64) : lN (xnl x) = x := by
  apply Int64.toBitVec_inj.mp
  show BitVec.ofNat 64 x.toBitVec.toNat = x.toBitVec
  simp
theorem nI_int (n : Nat) : (nI n).toInt = if n % 4294967296 < 2147483648 then ((n % 4294967296 : Nat) : Int) else ((n % 4294967296 : Nat) : Int) - 4294967296 := by
  show (BitVec.ofNat 32 n).toInt = _
  rw [BitVec.toInt_eq_toNat_cond, BitVec.toNat_ofNat]
  simp only [show (2 : Nat) ^ 32 = 4294967296 from rfl]
  split <;> split <;> omega
theorem lN_int (n : Nat) : (lN n).toInt = if n % 18446744073709551616 < 9223372036854775808 then ((n % 18446744073709551616 : Nat) : Int) else ((n % 18446744073709551616 : Nat) : Int) - 18446744073709551616 := by
  show (BitVec.ofNat 64 n).toInt = _
  rw [BitVec.toInt_eq_toNat_cond, BitVec.toNat_ofNat]
  simp only [show (2 : Nat) ^ 64 = 18446744073709551616 from rfl]
  split <;> split <;> omega
theorem xoi_ok (n : Nat) : xoi n = xoff (nI n).toInt := by
  rw [nI_int]
  unfold xoi xoff
  have h := Nat.mod_lt n (show 0 < 4294967296 by decide)
  generalize n % 4294967296 = k at h ⊢
  cases hb : Nat.ble 2147483648 k with
  | true =>
    have := Nat.le_of_ble_eq_true hb
    simp only [cond_true]
    rw [if_neg (by omega)]; omega
  | false =>
    have : ¬ 2147483648 ≤ k := fun q => by rw [Nat.ble_eq_true_of_le q] at hb; cases hb
    simp only [cond_false]
    rw [if_pos (by omega)]; omega
theorem xol_ok (n : Nat) : xol n = xoff (lN n).toInt := by
  rw [lN_int]
  unfold xol xoff
  split <;> omega
theorem i32_lo (x : Int32) : -2147483648 ≤ x.toInt ∧ x.toInt < 2147483648 := by
  have h1 := x.toBitVec.toInt_lt
  have h2 := x.toBitVec.le_toInt
  simp at h1 h2
  exact ⟨h2, h1⟩
theorem i64_lo (x : Int64) : -9223372036854775808 ≤ x.toInt ∧ x.toInt < 9223372036854775808 := by
  have h1 := x.toBitVec.toInt_lt
  have h2 := x.toBitVec.le_toInt
  simp at h1 h2
  exact ⟨h2, h1⟩
theorem xoff_int (x : Int32) : (xoff x.toInt : Int) = x.toInt + 9223372036854775808 := by
  have := i32_lo x
  unfold xoff; omega
theorem xoff_long (x : Int64) : (xoff x.toInt : Int) = x.toInt + 9223372036854775808 := by
  have := i64_lo x
  unfold xoff; omega
theorem xoff_wide (x : Int32) : xoff x.toInt ≤ 18446744073709551616 := by
  have := i32_lo x
  have := xoff_int x
  omega
theorem xoff_wideL (x : Int64) : xoff x.toInt ≤ 18446744073709551616 := by
  have := i64_lo x
  have := xoff_long x
  omega
theorem x_i2lI (x : Int32) : x.toInt64.toInt = x.toInt := by simp
def xbf (f : Nat → Nat) (bx : xbox) : Prop := ∀ i, (xbg bx i).1 ≤ f i ∧ f i ≤ (xbg bx i).2
def xbxo (bx : xbox) : Prop := xbf (fun i => xoff (sv i).toInt) bx
theorem xbf_set : ∀ (bx : xbox) (f : Nat → Nat) (i lo hi : Nat), xbf f bx → lo ≤ f i → f i ≤ hi → xbf f (xbs bx i lo hi)
  | [], f, i, lo, hi, h, _, _ => h
  | q :: l, f, 0, lo, hi, h, h1, h2 => fun j => by
    cases j with
    | zero => exact ⟨h1, h2⟩
    | succ j => exact h (j + 1)
  | q :: l, f, i + 1, lo, hi, h, h1, h2 => fun j => by
    cases j with
    | zero => exact h 0
    | succ j => exact xbf_set l (fun k => f (k + 1)) i lo hi (fun k => h (k + 1)) h1 h2 j
theorem xrg_int {as : List Nat} {bx : xbox} (hb : xbxo sv bx) : ∀ {w : xv} {x : Int32}, xden sv ex as w (.int x) → (xrg bx w).1 ≤ xoff x.toInt ∧ xoff x.toInt ≤ (xrg bx w).2
  | (0, n), x, h => by
    have e : x = nI n := Value.int.inj h
    rw [e, ← xoi_ok]; exact ⟨Nat.le_refl _, Nat.le_refl _⟩
  | (1, n), x, h => by
    have e : x = sv n := Value.int.inj h
    rw [e]; exact hb n
  | (2, n), x, h => by cases h
  | (3, n), x, h => by cases h
  | (4, n), x, h => by
    obtain ⟨a, _, h2⟩ := h
    cases h2
  | (5, n), x, h => by cases h
  | (6, n), x, h => by cases h
  | (7, n), x, _ => ⟨Nat.zero_le _, xoff_wide x⟩
  | (8, n), x, _ => ⟨Nat.zero_le _, xoff_wide x⟩
  | (9, n), x, h => h.elim
  | (10, n), x, h => by
    rcases h with h | ⟨a, h⟩ <;> cases h
  | (_ + 11, n), x, h => h.elim
theorem xrg_long {as : List Nat} {bx : xbox} (hb : xbxo sv bx) : ∀ {w : xv} {x : Int64}, xden sv ex as w (.long x) → (xrg bx w).1 ≤ xoff x.toInt ∧ xoff x.toInt ≤ (xrg bx w).2
  | (0, n), x, h => by cases h
  | (1, n), x, h => by cases h
  | (2, n), x, h => by
    have e : x = lN n := Value.long.inj h
    rw [e, ← xol_ok]; exact ⟨Nat.le_refl _, Nat.le_refl _⟩
  | (3, n), x, h => by
    have e : x = (sv n).toInt64 := Value.long.inj h
    rw [e, x_i2lI]; exact hb n
  | (4, n), x, h => by
    obtain ⟨a, _, h2⟩ := h
    cases h2
  | (5, n), x, h => by cases h
  | (6, n), x, h => by cases h
  | (7, n), x, _ => ⟨Nat.zero_le _, xoff_wideL x⟩
  | (8, n), x, _ => ⟨Nat.zero_le _, xoff_wideL x⟩
  | (9, n), x, h => h.elim
  | (10, n), x, h => by
    rcases h with h | ⟨a, h⟩ <;> cases h
  | (_ + 11, n), x, h => h.elim
theorem x_one (x : Int32) {o : Nat} (h1 : o ≤ xoff x.toInt) (h2 : xoff x.toInt ≤ o) : x = nI (o % 4294967296) := by
  apply Int32.toInt_inj.mp
  have hb := i32_lo x
  have := xoff_int x
  rw [nI_int]
  split <;> omega
theorem x_oneL (x : Int32) {o : Nat} (h1 : o ≤ xoff x.toInt) (h2 : xoff x.toInt ≤ o) : x.toInt64 = lN ((o + 9223372036854775808) % 18446744073709551616) := by
  apply Int64.toInt_inj.mp
  have hb := i32_lo x
  have := xoff_int x
  rw [x_i2lI, lN_int]
  split <;> omega
theorem xci_ok {as : List Nat} {bx : xbox} (hb : xbxo sv bx) : ∀ {w : xv} {v : Value} {n : Nat}, xden sv ex as w v → xci bx w = some n → v = .int (nI n)
  | (0, _), v, n, h, k => by cases k; exact h
  | (1, i), v, n, h, k => by
    have k' : cond (Nat.beq (xbg bx i).1 (xbg bx i).2) (some ((xbg bx i).1 % 4294967296)) none = some n := k
    cases hq : Nat.beq (xbg bx i).1 (xbg bx i).2 with
    | false => rw [hq] at k'; cases k'
    | true =>
      rw [hq] at k'
      have e := Nat.eq_of_beq_eq_true hq
      have hr := hb i
      rw [show v = _ from h, x_one (sv i) (o := (xbg bx i).1) hr.1 (by rw [e]; exact hr.2)]
      rw [← Option.some.inj k']
  | (2, _), v, n, h, k => by cases k
  | (3, _), v, n, h, k => by cases k
  | (4, _), v, n, h, k => by cases k
  | (5, _), v, n, h, k => by cases k
  | (6, _), v, n, h, k => by cases k
  | (7, _), v, n, h, k => by cases k
  | (8, _), v, n, h, k => by cases k
  | (9, _), v, n, h, k => by cases k
  | (10, _), v, n, h, k => by cases k
  | (_ + 11, _), v, n, h, k => by cases k
theorem xcl_ok {as : List Nat} {bx : xbox} (hb : xbxo sv bx) : ∀ {w : xv} {v : Value} {n : Nat}, xden sv ex as w v → xcl bx w = some n → v = .long (lN n)
  | (0, _), v, n, h, k => by cases k
  | (1, _), v, n, h, k => by cases k
  | (2, _), v, n, h, k => by cases k; exact h
  | (3, i), v, n, h, k => by
    have k' : cond (Nat.beq (xbg bx i).1 (xbg bx i).2) (some (((xbg bx i).1 + 9223372036854775808) % 18446744073709551616)) none = some n := k
    cases hq : Nat.beq (xbg bx i).1 (xbg bx i).2 with
    | false => rw [hq] at k'; cases k'
    | true =>
      rw [hq] at k'
      have e := Nat.eq_of_beq_eq_true hq
      have hr := hb i
      rw [show v = _ from h, x_oneL (sv i) (o := (xbg bx i).1) hr.1 (by rw [e]; exact hr.2)]
      rw [← Option.some.inj k']
  | (4, _), v, n, h, k => by cases k
  | (5, _), v, n, h, k => by cases k
  | (6, _), v, n, h, k => by cases k
  | (7, _), v, n, h, k => by cases k
  | (8, _), v, n, h, k => by cases k
  | (9, _), v, n, h, k => by cases k
  | (10, _), v, n, h, k => by cases k
  | (_ + 11, _), v, n, h, k => by cases k
/-! stacks and locals -/
def xstR (as : List Nat) : List xv → List Value → Prop
  | [], [] => True
  | w :: l, v :: m => xden sv ex as w v ∧ xstR as l m
  | _, _ => False
def xlsR (as : List Nat) : List (Nat × xv) → List (Nat × Value) → Prop
  | [], [] => True
  | q :: l, r :: m => r.1 = q.1 ∧ xden sv ex as q.2 r.2 ∧ xlsR as l m
  | _, _ => False
theorem xstR.mono {as as' : List Nat} (hl : xle as as') : ∀ {a : List xv} {b : List Value}, xstR sv ex as a b → xstR sv ex as' a b
  | [], [], _ => trivial
  | _ :: _, _ :: _, h => ⟨xden.mono sv ex hl h.1, xstR.mono hl h.2⟩
  | [], _ :: _, h => h.elim
  | _ :: _, [], h => h.elim
theorem xlsR.mono {as as' : List Nat} (hl : xle as as') : ∀ {a : List (Nat × xv)} {b : List (Nat × Value)}, xlsR sv ex as a b → xlsR sv ex as' a b
  | [], [], _ => trivial
  | _ :: _, _ :: _, h => ⟨h.1, xden.mono sv ex hl h.2.1, xlsR.mono hl h.2.2⟩
  | [], _ :: _, h => h.elim
  | _ :: _, [], h => h.elim
theorem xlk_ok {as : List Nat} {i : Nat} {w : xv} : ∀ {a : List (Nat × xv)} {b : List (Nat × Value)}, xlsR sv ex as a b → xlk a i = some w → ∃ (k : Nat) (v : Value), b[k]? = some (i, v) ∧ xden sv ex as w v
  | [], _, _, h => by cases h
  | _ :: _, [], h, _ => h.elim
  | q :: l, r :: m, h, hk => by
    have hk' : cond (Nat.beq q.1 i) (some q.2) (xlk l i) = some w := hk
    cases hb : Nat.beq q.1 i with
    | true =>
      rw [hb] at hk'
      have e := Nat.eq_of_beq_eq_true hb
      have e2 : q.2 = w := Option.some.inj hk'
      refine ⟨0, r.2, ?_, by rw [← e2]; exact h.2.1⟩
      show some r = some (i, r.2)
      rw [← e, ← h.1]
    | false =>
      rw [hb] at hk'
      obtain ⟨k, v, h1, h2⟩ := xlk_ok h.2.2 hk'
      exact ⟨k + 1, v, h1, h2⟩
theorem xlsR.filter {as : List Nat} {f : Nat × xv → Bool} {g : Nat × Value → Bool} (hfg : ∀ (i : Nat) (w : xv) (v : Value), xden sv ex as w v → f (i, w) = g (i, v)) : ∀ {a : List (Nat × xv)} {b : List (Nat × Value)}, xlsR sv ex as a b → xlsR sv ex as (a.filter f) (b.filter g)
  | [], [], _ => trivial
  | [], _ :: _, h => h.elim
  | _ :: _, [], h => h.elim
  | (i, w) :: l, (j, v) :: m, h => by
    obtain ⟨h1, h2, h3⟩ := h
    have h1' : j = i := h1
    subst h1'
    have e := hfg j w v h2
    rw [List.filter_cons, List.filter_cons, e]
    cases g (j, v) with
    | true => exact ⟨rfl, h2, xlsR.filter hfg h3⟩
    | false => exact xlsR.filter hfg h3
theorem xnb (a b : Nat) : Nat.beq a b = (a == b) := by
  rw [Bool.eq_iff_iff, beq_iff_eq]
  exact ⟨Nat.eq_of_beq_eq_true, fun h => by rw [h]; exact Nat.beq_refl b⟩
theorem xk1_ok {as : List Nat} (i : Nat) : ∀ (j : Nat) (w : xv) (v : Value), xden sv ex as w v → xk1 i (j, w) = (fun q : Nat × Value => !(q.1 == i) && !(q.1 + 1 == i && q.2.category == 2)) (j, v) := by
  intro j w v h
  have hc := xden.cat sv ex h
  show (!(Nat.beq j i) && !(Nat.beq (j + 1) i && Nat.beq (xkd w.1) 1)) = (!(j == i) && !(j + 1 == i && v.category == 2))
  rw [hc, xnb j i, xnb (j + 1) i]
  cases Nat.beq (xkd w.1) 1 <;> rfl
theorem xk2_ok {as : List Nat} (i : Nat) : ∀ (j : Nat) (w : xv) (v : Value), xden sv ex as w v → xk2 i (j, w) = (fun q : Nat × Value => !(q.1 == i) && (!(q.1 == i + 1) && !(q.1 + 1 == i && q.2.category == 2))) (j, v) := by
  intro j w v h
  have hc := xden.cat sv ex h
  show (!(Nat.beq j i) && (!(Nat.beq j (i + 1)) && !(Nat.beq (j + 1) i && Nat.beq (xkd w.1) 1))) = (!(j == i) && (!(j == i + 1) && !(j + 1 == i && v.category == 2)))
  rw [hc, xnb j i, xnb (j + 1) i, xnb j (i + 1)]
  cases Nat.beq (xkd w.1) 1 <;> rfl
theorem xwds_ok {as : List Nat} : ∀ {a : List xv} {b : List Value}, xstR sv ex as a b → (b.map fun v => v.category).sum = xwds a
  | [], [], _ => rfl
  | [], _ :: _, h => h.elim
  | _ :: _, [], h => h.elim
  | w :: l, v :: m, h => by
    rw [List.map_cons, List.sum_cons, xwds_ok h.2, xden.cat sv ex h.1]
    rfl
theorem xarg_ok {as : List Nat} : ∀ {a : List xv} {b : List Value} (i : Nat), xstR sv ex as a b → xlsR sv ex as (xarg i a) (lv_args i b)
  | [], [], _, _ => trivial
  | [], _ :: _, _, h => h.elim
  | _ :: _, [], _, h => h.elim
  | w :: l, v :: m, i, h => by
    refine ⟨rfl, h.1, ?_⟩
    have hc := xden.cat sv ex h.1
    have e : (if v.category = 2 then i + 2 else i + 1) = cond (Nat.beq (xkd w.1) 1) (i + 2) (i + 1) := by
      rw [hc]; cases Nat.beq (xkd w.1) 1 <;> rfl
    show xlsR sv ex as (xarg (cond (Nat.beq (xkd w.1) 1) (i + 2) (i + 1)) l) (lv_args (if v.category = 2 then i + 2 else i + 1) m)
    rw [e]
    exact xarg_ok _ h.2
theorem xsl_len {as : List Nat} : ∀ {a : List xv} {b : List Value}, xstR sv ex as a b → (lg_sl b).length = xwds a
  | [], [], _ => rfl
  | [], _ :: _, h => h.elim
  | _ :: _, [], h => h.elim
  | w :: l, v :: m, h => by
    have hc := xden.cat sv ex h.1
    have ih := xsl_len h.2
    unfold lg_sl at ih ⊢
    rw [List.flatMap_cons, List.length_append, ih, hc]
    show _ = cond (Nat.beq (xkd w.1) 1) 2 1 + xwds l
    cases Nat.beq (xkd w.1) 1 <;> rfl
theorem xpop_ok {as : List Nat} : ∀ (k : Nat) {acc st : List xv} {accV stV : List Value} {q : List xv × List xv}, xstR sv ex as acc accV → xstR sv ex as st stV → xpop k acc st = some q →
    ∃ aV rV, xstR sv ex as q.1 aV ∧ xstR sv ex as q.2 rV ∧ aV.reverse ++ rV = accV.reverse ++ stV ∧ aV.length = k + accV.length
  | 0, acc, st, accV, stV, q, h1, h2, h => by
    cases h
    exact ⟨accV, stV, h1, h2, rfl, by omega⟩
  | k + 1, acc, [], accV, stV, q, h1, h2, h => by cases h
  | k + 1, acc, w :: l, accV, [], q, h1, h2, h => h2.elim
  | k + 1, acc, w :: l, accV, v :: m, q, h1, h2, h => by
    obtain ⟨aV, rV, e1, e2, e3, e4⟩ := xpop_ok k (acc := w :: acc) (accV := v :: accV) ⟨h2.1, h1⟩ h2.2 h
    refine ⟨aV, rV, e1, e2, ?_, ?_⟩
    · rw [e3, List.reverse_cons, List.append_assoc]; rfl
    · rw [e4, List.length_cons]; omega
end Rel
