/-! What a call adds, by the run itself: the tape and what is read from it -/
def xB : Int := 1099511627776
noncomputable def xnum (env : aenv) (mem : List am) (t k : Nat) (i : ae) : Option ae := match amg env t ((k : Int), []) i mem with
  | none => none
  | some v => cond (Nat.beq v.1 0) (some v.2.2) none
/-- the row isn't among what is written; the cell isn't -/
def xhc : Option Nat → Nat → Bool
  | none, _ => true
  | some c, k => Nat.beq k c
noncomputable def xtq (tyt : Lean.RArray (Nat × Nat)) (k t : Nat) : Bool := match xg tyt k with
  | none => false
  | some u => Nat.beq u t
noncomputable def xrw (tyt : Lean.RArray (Nat × Nat)) (wr : List awr) (k : Nat) : Bool := wr.all (fun w => !(cond (xhc w.2.1 k) (xtq tyt k w.1) false))
noncomputable def xcw (tyt : Lean.RArray (Nat × Nat)) (wr : List awr) (k : Nat) (j : Int) : Bool := wr.all (fun w => !(cond (xhc w.2.1 k) (cond (xtq tyt k w.1) (cond (zle w.2.2.1 j) (cond (zle 2147483648 w.2.2.2) true (zle j w.2.2.2)) false) false) false))
theorem xhc_ok {w : Option Nat} {k : Nat} (h : ∀ c, w = some c → k = c) : xhc w k = true := by
  cases w with
  | none => rfl
  | some c => exact xnb1 (h c rfl)
theorem xtq_ok {tyt : Lean.RArray (Nat × Nat)} {k t : Nat} (h : xg tyt k = some t) : xtq tyt k t = true := by
  unfold xtq
  rw [h]
  exact xnb1 rfl
theorem xrw_ok {tyt : Lean.RArray (Nat × Nat)} {wr : List awr} {k : Nat} (h : xrw tyt wr k = true) (j : Nat) : ¬ awc tyt wr k j := by
  intro ⟨w, hw, h1, h2, h3, h4⟩
  have h := List.all_eq_true.mp h w hw
  rw [xhc_ok h2, xtq_ok h1] at h
  cases h
theorem xcw_ok {tyt : Lean.RArray (Nat × Nat)} {wr : List awr} {k j : Nat} (h : xcw tyt wr k (j : Int) = true) : ¬ awc tyt wr k j := by
  intro ⟨w, hw, h1, h2, h3, h4⟩
  have h := List.all_eq_true.mp h w hw
  rw [xhc_ok h2, xtq_ok h1, zle_iff.mpr h3] at h
  have h5 : cond (zle 2147483648 w.2.2.2) true (zle (j : Int) w.2.2.2) = true := by
    rcases h4 with h4 | h4
    · rw [zle_iff.mpr h4]; rfl
    · rw [zle_iff.mpr h4]
      cases zle 2147483648 w.2.2.2 <;> rfl
  simp only [cond_true] at h
  rw [h5] at h
  cases h
noncomputable def xfed (tyt : Lean.RArray (Nat × Nat)) (env : aenv) (mem : List am) : Option ae := match xg tyt 0 with
  | none => none
  | some t => xnum env mem t 0 (5, [])
noncomputable def xtap (tyt : Lean.RArray (Nat × Nat)) (env : aenv) (mem : List am) : Option ae := match xg tyt 253 with
  | none => none
  | some t => xnum env mem t 253 (10, [])
/-- before the class reads or writes its tape -/
noncomputable def xprq (tyt : Lean.RArray (Nat × Nat)) (wr : List awr) (env : aenv) (fx : List ae) (mem : List am) (gh : List gho) : Bool := match xfed tyt env mem with
  | none => false
  | some a => match xtap tyt env mem with
    | none => false
    | some b => cond (eeq env a b) (cond (elef env fx 2 (eadc a (-900))) (cond (elef env fx 2 (escl a (-1))) (cond (xcw tyt wr 253 10) (cond (xrw tyt wr 259) (gh.any (fun x => cond (Nat.beq x.1 70) (elef env fx 2 (eadd a x.2.2.2 (-1))) false)) false) false) false) false) false
/-- e by s, where s divides all -/
def xdq (s : Int) (e : ae) : ae := (Int.ediv e.1 s, e.2.map (fun q => (q.1, Int.ediv q.2 s)))
theorem xdql_ev {s : Int} (ρ : Nat → Int) : ∀ {l : List (Nat × Int)}, zdvd s l = true → s * evl ρ (l.map (fun q => (q.1, Int.ediv q.2 s))) = evl ρ l
  | [], _ => Int.mul_zero s
  | q :: l, h => by
    obtain ⟨h1, h2⟩ := xcnb (show cond (zeq (Int.emod q.2 s) 0) (zdvd s l) false = true from h)
    have h3 : s ∣ q.2 := Int.dvd_of_emod_eq_zero (zeq_iff.mp h1)
    show s * (Int.ediv q.2 s * ρ q.1 + evl ρ (l.map (fun q => (q.1, Int.ediv q.2 s)))) = q.2 * ρ q.1 + evl ρ l
    rw [Int.mul_add, xdql_ev ρ h2, ← Int.mul_assoc]
    have e : s * Int.ediv q.2 s = q.2 := Int.mul_ediv_cancel' h3
    rw [e]
theorem xdq_ev {s : Int} {e : ae} (ρ : Nat → Int) (h1 : zeq (Int.emod e.1 s) 0 = true) (h2 : zdvd s e.2 = true) : s * ev ρ (xdq s e) = ev ρ e := by
  have h3 : s ∣ e.1 := Int.dvd_of_emod_eq_zero (zeq_iff.mp h1)
  show s * (Int.ediv e.1 s + evl ρ (e.2.map (fun q => (q.1, Int.ediv q.2 s)))) = e.1 + evl ρ e.2
  rw [Int.mul_add, xdql_ev ρ h2]
  have e : s * Int.ediv e.1 s = e.1 := Int.mul_ediv_cancel' h3
  rw [e]
/-- so many numbers in one -/
def xpk : List av → Option ae
  | [] => some (0, [])
  | a :: l => cond (Nat.beq a.1 0) (match xpk l with
    | none => none
    | some e => some (eadd a.2.2 e xB)) none
/-- this object -/
noncomputable def xob (env : aenv) (a : av) (k : Nat) : Bool := cond (Nat.beq a.1 4) (eeq env a.2.2 ((k : Int), [])) false
noncomputable def xcrt (tyt : Lean.RArray (Nat × Nat)) (args : List av) (wr : List awr) (env : aenv) (fx : List ae) (mem : List am) (gh : List gho) (rv : Option av) : List gho := match args with
  | [t, n] => match rv with
    | none => []
    | some r => cond (xob env t 0) (cond (xprq tyt wr env fx mem gh) (match xpk [n, r] with
      | none => []
      | some e => [(74, 0, 0, e)]) []) []
  | _ => []
noncomputable def xfe (tyt : Lean.RArray (Nat × Nat)) (args : List av) (wr : List awr) (env : aenv) (fx : List ae) (mem : List am) (gh : List gho) : List gho := match args with
  | [t, a1, a2, a3, a4, a5] => cond (xob env t 0) (cond (xprq tyt wr env fx mem gh) (match xpk [a1, a2, a3, a4, a5] with
    | none => []
    | some e => [(75, 0, 0, e)]) []) []
  | _ => []
/-- what was read, by what the class read -/
noncomputable def xan (n r : ae) : List gho → List ae
  | [] => []
  | x :: l => cond (Nat.beq x.1 74) (cond (cond (zeq (Int.emod (eadd x.2.2.2 n (-1)).1 xB) 0) (zdvd xB (eadd x.2.2.2 n (-1)).2) false) [eadd (xdq xB (eadd x.2.2.2 n (-1))) r (-1), eadd r (xdq xB (eadd x.2.2.2 n (-1))) (-1)] (xan n r l)) (xan n r l)
noncomputable def xans (env : aenv) (args : List av) (gh : List gho) (rv : Option av) : List ae := match args with
  | [t, n] => match rv with
    | none => []
    | some r => cond (xob env t 253) (cond (Nat.beq n.1 0) (cond (Nat.beq r.1 0) (xan n.2.2 r.2.2 gh) []) []) []
  | _ => []
noncomputable def xfm (tyt : Lean.RArray (Nat × Nat)) (args : List av) (env0 : aenv) (gh0 : List gho) (env : aenv) (mem : List am) : List gho := match args with
  | [t, a1, a2, a3, a4, a5] => cond (xob env0 t 253) (match xpk [a1, a2, a3, a4, a5] with
    | none => []
    | some e => cond (gh0.any (fun x => cond (Nat.beq x.1 75) (eeq env0 x.2.2.2 e) false)) (match xtap tyt env mem with
      | none => []
      | some v => [(70, 0, 0, v)]) []) []
  | _ => []
noncomputable def zXS (tyt : Lean.RArray (Nat × Nat)) (z : Nat) (args : List av) (wr : List awr) (env0 : aenv) (fx0 : List ae) (mem0 : List am) (gh0 : List gho) (rv : Option av) (env : aenv) (mem : List am) : List ae × List gho :=
  cond (Nat.beq z 273) ([], xcrt tyt args wr env0 fx0 mem0 gh0 rv) (cond (Nat.beq z 274) (xans env0 args gh0 rv, []) (cond (Nat.beq z 271) ([], xfe tyt args wr env0 fx0 mem0 gh0) (cond (Nat.beq z 272) ([], xfm tyt args env0 gh0 env mem) ([], []))))
