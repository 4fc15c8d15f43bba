/-! What a call adds, by the run itself: one ghost (kind 72) of all that both programs have in common, kept over both one's call and the other's -/
def xB : Int := 1099511627776
/-- the row isn't among what is written; the cell isn't -/
def xhc : Option Nat → Nat → Bool
  | none, _ => true
  | some c, k => Nat.beq k c
noncomputable def xtq (tyt : Lean.RArray (Nat × Nat)) (k t : Nat) : Bool := match xg tyt k with
  | none => false
  | some u => Nat.beq u t
theorem xhc_ok {w : Option Nat} {k : Nat} (h : ∀ c, w = some c → k = c) : xhc w k = true := by
  cases w with
  | none => rfl
  | some c => exact xnb1 (h c rfl)
theorem xtq_ok {tyt : Lean.RArray (Nat × Nat)} {k t : Nat} (h : xg tyt k = some t) : xtq tyt k t = true := by
  unfold xtq
  rw [h]
  exact xnb1 rfl
noncomputable def xnum (env : aenv) (mem : List am) (t k : Nat) (i : ae) : Option ae := match amg env t ((k : Int), []) i mem with
  | none => none
  | some v => cond (Nat.beq v.1 0) (some v.2.2) none
noncomputable def xrw (tyt : Lean.RArray (Nat × Nat)) (wr : List awr) (k : Nat) : Bool := wr.all (fun w => !(cond (xhc w.2.1 k) (xtq tyt k w.1) false))
noncomputable def xcw (tyt : Lean.RArray (Nat × Nat)) (wr : List awr) (k : Nat) (j : Int) : Bool := wr.all (fun w => !(cond (xhc w.2.1 k) (cond (xtq tyt k w.1) (cond (zle w.2.2.1 j) (cond (zle 2147483648 w.2.2.2) true (zle j w.2.2.2)) false) false) false))
theorem xrw_ok {tyt : Lean.RArray (Nat × Nat)} {wr : List awr} {k : Nat} (h : xrw tyt wr k = true) (j : Nat) : ¬ awc tyt wr k j := by
  intro ⟨w, hw, h1, h2, h3, h4⟩
  have h := List.all_eq_true.mp h w hw
  rw [xhc_ok h2, xtq_ok h1] at h
  cases h
theorem xcw_ok {tyt : Lean.RArray (Nat × Nat)} {wr : List awr} {k j : Nat} (h : xcw tyt wr k (j : Int) = true) : ¬ awc tyt wr k j := by
  intro ⟨w, hw, h1, h2, h3, h4⟩
  have h := List.all_eq_true.mp h w hw
  rw [xhc_ok h2, xtq_ok h1, zle_iff.mpr h3] at h
  have h5 : cond (zle 2147483648 w.2.2.2) true (zle (j : Int) w.2.2.2) = true := by
    rcases h4 with h4 | h4
    · rw [zle_iff.mpr h4]; rfl
    · rw [zle_iff.mpr h4]
      cases zle 2147483648 w.2.2.2 <;> rfl
  simp only [cond_true] at h
  rw [h5] at h
  cases h
noncomputable def xfed (tyt : Lean.RArray (Nat × Nat)) (env : aenv) (mem : List am) : Option ae := match xg tyt 0 with
  | none => none
  | some t => xnum env mem t 0 (5, [])
noncomputable def xtap (tyt : Lean.RArray (Nat × Nat)) (env : aenv) (mem : List am) : Option ae := match xg tyt 253 with
  | none => none
  | some t => xnum env mem t 253 (10, [])
/-- before the class reads or writes its tape -/
noncomputable def xprq (tyt : Lean.RArray (Nat × Nat)) (wr : List awr) (env : aenv) (fx : List ae) (mem : List am) (gh : List gho) : Bool := match xfed tyt env mem with
  | none => false
  | some a => match xtap tyt env mem with
    | none => false
    | some b => cond (eeq env a b) (cond (elef env fx 2 (eadc a (-900))) (cond (elef env fx 2 (escl a (-1))) (cond (xcw tyt wr 253 10) (cond (xrw tyt wr 259) (gh.any (fun x => cond (Nat.beq x.1 70) (elef env fx 2 (eadd a x.2.2.2 (-1))) false)) false) false) false) false) false
/-- e by s, where s divides all -/
def xdq (s : Int) (e : ae) : ae := (Int.ediv e.1 s, e.2.map (fun q => (q.1, Int.ediv q.2 s)))
theorem xdql_ev {s : Int} (ρ : Nat → Int) : ∀ {l : List (Nat × Int)}, zdvd s l = true → s * evl ρ (l.map (fun q => (q.1, Int.ediv q.2 s))) = evl ρ l
  | [], _ => Int.mul_zero s
  | q :: l, h => by
    obtain ⟨h1, h2⟩ := xcnb (show cond (zeq (Int.emod q.2 s) 0) (zdvd s l) false = true from h)
    have h3 : s ∣ q.2 := Int.dvd_of_emod_eq_zero (zeq_iff.mp h1)
    show s * (Int.ediv q.2 s * ρ q.1 + evl ρ (l.map (fun q => (q.1, Int.ediv q.2 s)))) = q.2 * ρ q.1 + evl ρ l
    rw [Int.mul_add, xdql_ev ρ h2, ← Int.mul_assoc]
    have e : s * Int.ediv q.2 s = q.2 := Int.mul_ediv_cancel' h3
    rw [e]
theorem xdq_ev {s : Int} {e : ae} (ρ : Nat → Int) (h1 : zeq (Int.emod e.1 s) 0 = true) (h2 : zdvd s e.2 = true) : s * ev ρ (xdq s e) = ev ρ e := by
  have h3 : s ∣ e.1 := Int.dvd_of_emod_eq_zero (zeq_iff.mp h1)
  show s * (Int.ediv e.1 s + evl ρ (e.2.map (fun q => (q.1, Int.ediv q.2 s)))) = e.1 + evl ρ e.2
  rw [Int.mul_add, xdql_ev ρ h2]
  have e : s * Int.ediv e.1 s = e.1 := Int.mul_ediv_cancel' h3
  rw [e]
/-- so many numbers in one -/
def xpk : List av → Option ae
  | [] => some (0, [])
  | a :: l => cond (Nat.beq a.1 0) (match xpk l with
    | none => none
    | some e => some (eadd a.2.2 e xB)) none
/-- this object -/
noncomputable def xob (env : aenv) (a : av) (k : Nat) : Bool := cond (Nat.beq a.1 4) (eeq env a.2.2 ((k : Int), [])) false
noncomputable def xfe (tyt : Lean.RArray (Nat × Nat)) (args : List av) (wr : List awr) (env : aenv) (fx : List ae) (mem : List am) (gh : List gho) : List gho := match args with
  | [t, a1, a2, a3, a4, a5] => cond (xob env t 0) (cond (xprq tyt wr env fx mem gh) (match xpk [a1, a2, a3, a4, a5] with
    | none => []
    | some e => [(75, 0, 0, e)]) []) []
  | _ => []
noncomputable def xfm (tyt : Lean.RArray (Nat × Nat)) (args : List av) (env0 : aenv) (gh0 : List gho) (env : aenv) (mem : List am) : List gho := match args with
  | [t, a1, a2, a3, a4, a5] => cond (xob env0 t 253) (match xpk [a1, a2, a3, a4, a5] with
    | none => []
    | some e => cond (gh0.any (fun x => cond (Nat.beq x.1 75) (eeq env0 x.2.2.2 e) false)) (match xtap tyt env mem with
      | none => []
      | some v => [(70, 0, 0, v)]) []) []
  | _ => []
/-- methods behind which the ghost may come back by copies; methods of the class whose partner in the reference has the next number, and how many numbers they are given -/
def xKR : List Nat := [227, 233]
def xPR : List (Nat × Nat) := [(273, 1), (275, 1), (367, 0), (369, 0), (313, 1), (303, 4), (305, 3), (307, 1), (309, 2), (311, 2), (361, 1), (293, 4)]
def xar (z : Nat) : List (Nat × Nat) → Option Nat
  | [] => none
  | q :: l => cond (Nat.beq q.1 z) (some q.2) (xar z l)
def xzin (z : Nat) (l : List Nat) : Bool := l.any (fun y => Nat.beq y z)
theorem xzin_ok {z : Nat} {l : List Nat} (h : xzin z l = true) : z ∈ l := by
  obtain ⟨y, hy, e⟩ := List.any_eq_true.mp h
  rw [← xeqb e]
  exact hy
noncomputable def xrl (gh : List gho) (a : Nat) : Bool := gh.any (fun x => cond (Nat.beq x.1 72) (Nat.beq x.2.1 a) false)
theorem xrl_ok {gh : List gho} {a : Nat} (h : xrl gh a = true) : ∃ x ∈ gh, x.1 = 72 ∧ x.2.1 = a := by
  obtain ⟨x, hx, e⟩ := List.any_eq_true.mp h
  obtain ⟨e1, e2⟩ := xcnb e
  exact ⟨x, hx, xeqb e1, xeqb e2⟩
/-- by a copy of the reference's court -/
noncomputable def jcp (env : aenv) (fx : List ae) (gh : List gho) (a b : Nat) : Bool := gh.any (fun w => cond (Nat.beq w.1 2) (cond (Nat.beq w.2.1 a) (cond (Nat.beq w.2.2.1 b) (elef env fx 2 (eadc (escl w.2.2.2 (-1)) 260)) false) false) false)
noncomputable def jrl (env : aenv) (fx : List ae) (gh : List gho) (a : Nat) : Bool := gh.any (fun y => cond (Nat.beq y.1 72) (cond (Nat.beq y.2.1 a) true (cond (Nat.ble 9000 a) false (cond (Nat.ble 9000 y.2.1) false (jcp env fx gh a y.2.1)))) false)
noncomputable def xkr (env : aenv) (fx : List ae) (gh : List gho) : List gho := cond (jrl env fx gh 0) [(72, 0, 0, (0, []))] [] ++ cond (jrl env fx gh 4464) [(72, 4464, 0, (0, []))] []
/-- a frame doesn't touch it -/
noncomputable def jwq (tyt : Lean.RArray (Nat × Nat)) (wr : List awr) (q : Nat × Int × Int) : Bool := wr.all (fun w => !(cond (xhc w.2.1 q.1) (cond (xtq tyt q.1 w.1) (cond (zle w.2.2.1 q.2.2) (cond (zle 2147483648 w.2.2.2) true (zle q.2.1 w.2.2.2)) false) false) false))
theorem jwq_ok {tyt : Lean.RArray (Nat × Nat)} {wr : List awr} {q : Nat × Int × Int} (h : jwq tyt wr q = true) {j : Nat} (h1 : q.2.1 ≤ (j : Int)) (h2 : (j : Int) ≤ q.2.2) : ¬ awc tyt wr q.1 j := by
  intro ⟨w, hw, a1, a2, a3, a4⟩
  have h := List.all_eq_true.mp h w hw
  rw [xhc_ok a2, xtq_ok a1, zle_iff.mpr (show w.2.2.1 ≤ q.2.2 by omega)] at h
  have h5 : cond (zle 2147483648 w.2.2.2) true (zle q.2.1 w.2.2.2) = true := by
    rcases a4 with a4 | a4
    · rw [zle_iff.mpr a4]; rfl
    · rw [zle_iff.mpr (show q.2.1 ≤ w.2.2.2 by omega)]
      cases zle 2147483648 w.2.2.2 <;> rfl
  simp only [cond_true] at h
  rw [h5] at h
  cases h
/-- what a call leaves as it was, beside: of a court, by the class's number of the method -/
def xND (B : Nat) : List (Nat × Int × Int) := [(B, 0, 9), (B + 1, 0, 4), (B + 2, 0, 4)] ++ ((List.range 6).flatMap (fun i => [(B + 14 + 2 * i, (0 : Int), (5 : Int)), (B + 15 + 2 * i, (0 : Int), (7 : Int))]) ++ (List.range 16).map (fun i => (B + 26 + i, (0 : Int), (7 : Int))))
def xCD (B : Nat) : List (Nat × Int × Int) := xND B ++ ((B + 5, (0 : Int), (2 : Int)) :: (List.range 8).map (fun i => (B + 6 + i, (0 : Int), (59 : Int))))
def xzdf : Nat → List (Nat × Int × Int)
  | 273 => [(0, 9, 9), (89, 0, 24)] ++ (xCD 127 ++ (xCD 169 ++ xCD 211))
  | 275 => [(0, 9, 9), (89, 0, 24)] ++ (xND 3 ++ (xCD 127 ++ (xCD 169 ++ xCD 211)))
  | _ => []
def xzmf : Nat → List (Nat × Int × Int)
  | 273 => [(253, 39, 39), (254, 744, 2975), (255, 12, 47)]
  | 275 => [(253, 39, 39), (254, 0, 6), (254, 8, 259), (254, 744, 2975), (255, 0, 47)]
  | _ => []
/-- what reads the tape -/
def xtr (z : Nat) : Bool := cond (Nat.beq z 273) true (Nat.beq z 275)
/-- what the FAULT hangs on -/
def xrf (_z : Nat) : Bool := false
/-- the class's call doesn't touch the reference, nor the reference's the class -/
noncomputable def xw1 (tyt : Lean.RArray (Nat × Nat)) (wr : List awr) : Bool := wr.all (fun w => match w.2.1 with
  | some c => Nat.blt c 253
  | none => (List.range 17).all (fun k => !xtq tyt (253 + k) w.1))
noncomputable def xw2 (wr : List awr) : Bool := wr.all (fun w => match w.2.1 with
  | some c => Nat.ble 253 c
  | none => false)
theorem xw1_ok {tyt : Lean.RArray (Nat × Nat)} {wr : List awr} (h : xw1 tyt wr = true) {k j : Nat} (h1 : 253 ≤ k) (h2 : k < 270) : ¬ awc tyt wr k j := by
  intro ⟨w, hw, a1, a2, _, _⟩
  have h := List.all_eq_true.mp h w hw
  split at h
  · rename_i c hc
    have h3 := a2 c hc
    have h4 := xltb h
    omega
  · have h3 := List.all_eq_true.mp h (k - 253) (List.mem_range.mpr (by omega))
    rw [show 253 + (k - 253) = k by omega, xtq_ok a1] at h3
    cases h3
theorem xw2_ok {tyt : Lean.RArray (Nat × Nat)} {wr : List awr} (h : xw2 wr = true) {k j : Nat} (h1 : k < 253) : ¬ awc tyt wr k j := by
  intro ⟨w, hw, a1, a2, _, _⟩
  have h := List.all_eq_true.mp h w hw
  split at h
  · rename_i c hc
    have h3 := a2 c hc
    have h4 := xleb h
    omega
  · cases h
noncomputable def xzcl (tyt : Lean.RArray (Nat × Nat)) (wr : List awr) (z ar : Nat) (args : List av) (env : aenv) (fx : List ae) (mem : List am) (gh : List gho) (rv : Option av) : List gho := match args with
  | [] => []
  | t :: l => match rv with
    | none => []
    | some r => cond (cond (xob env t 0) (Nat.beq l.length ar) false) (cond (cond (cond (xrl gh 0) (cond (xrf z) (xrl gh 9999) true) false) (cond (xw1 tyt wr) (cond ((xzdf z).all (fun q => jwq tyt wr q)) (cond (xtr z) (xprq tyt wr env fx mem gh) true) false) false) false) (match xpk (l ++ [r]) with
      | none => []
      | some e => [(74, z, 0, e)]) []) []
def xbn : List av → Int
  | [] => 1
  | _ :: l => Int.mul xB (xbn l)
noncomputable def xan (y : Nat) (A : ae) (n : Int) (r : ae) : List gho → Option (List ae)
  | [] => none
  | x :: l => cond (cond (Nat.beq x.1 74) (cond (Nat.beq x.2.1 y) (cond (zeq (Int.emod (eadd x.2.2.2 A (-1)).1 n) 0) (zdvd n (eadd x.2.2.2 A (-1)).2) false) false) false) (some [eadd (xdq n (eadd x.2.2.2 A (-1))) r (-1), eadd r (xdq n (eadd x.2.2.2 A (-1))) (-1)]) (xan y A n r l)
noncomputable def xzml (tyt : Lean.RArray (Nat × Nat)) (wr : List awr) (y ar : Nat) (args : List av) (env : aenv) (gh : List gho) (rv : Option av) (env1 : aenv) (fx1 : List ae) : List ae × List gho := match args with
  | [] => ([], [])
  | t :: l => match rv with
    | none => ([], [])
    | some r => cond (cond (xob env t 253) (Nat.beq l.length ar) false) (cond (cond (Nat.beq r.1 0) (cond (xw2 wr) ((xzmf y).all (fun q => jwq tyt wr q)) false) false) (match xpk l with
      | none => ([], [])
      | some A => match xan y A (xbn l) r.2.2 gh with
        | none => ([], [])
        | some fs => (fs, cond (cond (xtr y) (elef env1 fx1 2 (escl r.2.2 (-1))) true) [(72, 0, 0, (0, []))] [] ++ cond (xrf y) [(72, 9999, 0, (0, []))] [])) ([], [])) ([], [])
noncomputable def zXS (tyt : Lean.RArray (Nat × Nat)) (wr : List awr) (z : Nat) (args : List av) (env0 : aenv) (fx0 : List ae) (mem0 : List am) (gh0 : List gho) (rv : Option av) (env : aenv) (fx : List ae) (mem : List am) (gh : List gho) : List ae × List gho :=
  cond (xzin z xKR) ([], xkr env fx gh) (cond (Nat.beq z 271) ([], xfe tyt args wr env0 fx0 mem0 gh0) (cond (Nat.beq z 272) ([], xfm tyt args env0 gh0 env mem) (match xar z xPR with
    | some k => ([], xzcl tyt wr z k args env0 fx0 mem0 gh0 rv)
    | none => match xar (Nat.pred z) xPR with
      | some k => xzml tyt wr (Nat.pred z) k args env0 gh0 rv env fx
      | none => ([], []))))
