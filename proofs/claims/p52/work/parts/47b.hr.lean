/-! Numbers in one; what a call's answer is, by the ghosts -/
def vlo (e : Int) : Int := e % 1048576
def vhi (e : Int) : Int := e / 1048576 % 1048576 - 1
def vof (e : Int) : Int := e / 1048576 / 1048576
def dgv (c : Int) : Int := Int.ediv (Int.add c 524288) 1048576
def dg0 (c : Int) : Int := Int.add c (Int.neg (Int.mul 1048576 (dgv c)))
def dg1 (c : Int) : Int := dg0 (dgv c)
def dg2 (c : Int) : Int := dgv (dgv c)
theorem dg_sum (c : Int) : dg0 c + 1048576 * dg1 c + 1099511627776 * dg2 c = c := by
  unfold dg1 dg2 dg0
  show (c + -(1048576 * dgv c)) + 1048576 * (dgv c + -(1048576 * dgv (dgv c))) + 1099511627776 * dgv (dgv c) = c
  omega
def emz (f : Int → Int) : List (Nat × Int) → List (Nat × Int)
  | [] => []
  | q :: l => cond (zeq (f q.2) 0) (emz f l) ((q.1, f q.2) :: emz f l)
theorem emz_ev (f : Int → Int) (ρ : Nat → Int) (q : Nat × Int) (l : List (Nat × Int)) : evl ρ (emz f (q :: l)) = f q.2 * ρ q.1 + evl ρ (emz f l) := by
  show evl ρ (cond (zeq (f q.2) 0) (emz f l) ((q.1, f q.2) :: emz f l)) = _
  cases h : zeq (f q.2) 0 with
  | true => rw [zeq_iff.mp h, Int.zero_mul]; simp only [cond_true]; omega
  | false => rfl
theorem emz_sum (ρ : Nat → Int) : ∀ l : List (Nat × Int), evl ρ (emz dg0 l) + 1048576 * evl ρ (emz dg1 l) + 1099511627776 * evl ρ (emz dg2 l) = evl ρ l
  | [] => rfl
  | q :: l => by
    rw [emz_ev, emz_ev, emz_ev]
    have ih := emz_sum ρ l
    have h : (dg0 q.2 + 1048576 * dg1 q.2 + 1099511627776 * dg2 q.2) * ρ q.1 = q.2 * ρ q.1 := congrArg (fun z => z * ρ q.1) (dg_sum q.2)
    rw [Int.add_mul, Int.add_mul, Int.mul_assoc, Int.mul_assoc] at h
    show _ = q.2 * ρ q.1 + evl ρ l
    omega
def esp (f : Int → Int) (e : ae) : ae := (f e.1, emz f e.2)
theorem esp_ev (ρ : Nat → Int) (e : ae) : ev ρ e = ev ρ (esp dg0 e) + 1048576 * ev ρ (esp dg1 e) + 1099511627776 * ev ρ (esp dg2 e) := by
  have h1 := dg_sum e.1
  have h2 := emz_sum ρ e.2
  show e.1 + evl ρ e.2 = (dg0 e.1 + evl ρ (emz dg0 e.2)) + 1048576 * (dg1 e.1 + evl ρ (emz dg1 e.2)) + 1099511627776 * (dg2 e.1 + evl ρ (emz dg2 e.2))
  omega
theorem vdec {e lo h o : Int} (he : e = lo + 1048576 * h + 1099511627776 * o) (h1 : 0 ≤ lo) (h2 : lo ≤ 1048575) (h3 : 0 ≤ h) (h4 : h ≤ 1048575) : vlo e = lo ∧ vhi e = h - 1 ∧ vof e = o := by
  unfold vlo vhi vof
  have e1 : e / 1048576 = h + 1048576 * o := by omega
  refine ⟨by omega, ?_, ?_⟩
  · rw [e1]; omega
  · rw [e1]; omega
noncomputable def gdec (env : aenv) (fx : List ae) (E : ae) : Option (ae × ae × ae) := efrc (esp dg0 E) (fun lo => efrc (esp dg1 E) (fun h => efrc (esp dg2 E) (fun o => cond (cond (efit env fx lo 0 1048575) (efit env fx h 0 1048575) false) (some (lo, eadc h (-1), o)) none)))
theorem gdec_ok {env : aenv} {fx : List ae} {ρ : Nat → Int} (hE : envR env ρ) (hX : fxR fx ρ) {E : ae} {q : ae × ae × ae} (h : gdec env fx E = some q) : vlo (ev ρ E) = ev ρ q.1 ∧ vhi (ev ρ E) = ev ρ q.2.1 ∧ vof (ev ρ E) = ev ρ q.2.2 := by
  unfold gdec at h
  rw [efrc_eq, efrc_eq, efrc_eq] at h
  obtain ⟨h1, h2⟩ := xcnd h
  obtain ⟨a1, a2⟩ := xcnb h1
  have a1 := efit_ok hE hX a1
  have a2 := efit_ok hE hX a2
  have e := Option.some.inj h2
  obtain ⟨v1, v2, v3⟩ := vdec (esp_ev ρ E) a1.1 a1.2 a2.1 a2.2
  rw [← e]
  refine ⟨v1, ?_, v3⟩
  show vhi (ev ρ E) = ev ρ (eadc (esp dg1 E) (-1))
  rw [eadc_ev]
  omega
noncomputable def gnuw (env : aenv) (mem : List am) (t k : Nat) (i : ae) : Option ae := match amg env t ((k : Int), []) i mem with
  | none => none
  | some v => cond (cond (Nat.beq v.1 0) true (Nat.beq v.1 2)) (some v.2.2) none
/-- what covers lo to hi, piece by piece -/
noncomputable def gcov (env : aenv) (fx : List ae) (l : List (ae × ae)) (hi : ae) : Nat → ae → Bool
  | 0, cur => l.any (fun q => cond (elef env fx 2 (eadd q.1 cur (-1))) (elef env fx 2 (eadd hi q.2 (-1))) false)
  | n + 1, cur => l.any (fun q => cond (elef env fx 2 (eadd q.1 cur (-1))) (cond (elef env fx 2 (eadd hi q.2 (-1))) true (cond (eeq env cur q.2) false (gcov env fx l hi n q.2))) false)
theorem gcov_ok {env : aenv} {fx : List ae} {ρ : Nat → Int} (hE : envR env ρ) (hX : fxR fx ρ) {l : List (ae × ae)} {hi : ae} {X : Nat → Prop} (hl : ∀ q ∈ l, ∀ j : Nat, ev ρ q.1 ≤ (j : Int) → (j : Int) < ev ρ q.2 → X j) : ∀ (n : Nat) (cur : ae), gcov env fx l hi n cur = true → ∀ j : Nat, ev ρ cur ≤ (j : Int) → (j : Int) < ev ρ hi → X j
  | 0, cur, h, j, h1, h2 => by
    obtain ⟨q, hq, h⟩ := List.any_eq_true.mp (show l.any (fun q => cond (elef env fx 2 (eadd q.1 cur (-1))) (elef env fx 2 (eadd hi q.2 (-1))) false) = true from h)
    obtain ⟨a1, a2⟩ := xcnb h
    have a1 := elef_ok hE hX 2 _ a1
    have a2 := elef_ok hE hX 2 _ a2
    rw [eadd_ev] at a1 a2
    exact hl q hq j (by omega) (by omega)
  | n + 1, cur, h, j, h1, h2 => by
    obtain ⟨q, hq, h⟩ := List.any_eq_true.mp (show l.any (fun q => cond (elef env fx 2 (eadd q.1 cur (-1))) (cond (elef env fx 2 (eadd hi q.2 (-1))) true (cond (eeq env cur q.2) false (gcov env fx l hi n q.2))) false) = true from h)
    obtain ⟨a1, h⟩ := xcnb h
    have a1 := elef_ok hE hX 2 _ a1
    rw [eadd_ev] at a1
    by_cases hj : (j : Int) < ev ρ q.2
    · exact hl q hq j (by omega) hj
    · rcases xcnt h with a2 | a2
      · have a2 := elef_ok hE hX 2 _ a2
        rw [eadd_ev] at a2
        omega
      · cases he : eeq env cur q.2 with
        | true => rw [he] at a2; cases a2
        | false =>
          rw [he] at a2
          exact gcov_ok hE hX hl n q.2 a2 j (by omega) h2
/-- the pieces that are there -/
noncomputable def gpcs (env : aenv) (fx : List ae) (a b : Nat) (o : ae) : List gho → List (ae × ae)
  | [] => []
  | y :: l => cond (cond (Nat.beq y.1 5) (cond (Nat.beq y.2.1 a) (Nat.beq y.2.2.1 b) false) false) (match gdec env fx y.2.2.2 with
    | none => gpcs env fx a b o l
    | some q => cond (eeq env q.2.2 o) ((q.1, q.2.1) :: gpcs env fx a b o l) (gpcs env fx a b o l)) (gpcs env fx a b o l)
/-! four numbers in one -/
def vq0 (e : Int) : Int := e % 1048576
def vq1 (e : Int) : Int := e / 1048576 % 1048576
def vq2 (e : Int) : Int := e / 1048576 / 1048576 % 1048576
def vq3 (e : Int) : Int := e / 1048576 / 1048576 / 1048576
def dh2 (c : Int) : Int := dg0 (dgv (dgv c))
def dh3 (c : Int) : Int := dgv (dgv (dgv c))
theorem dh_sum (c : Int) : dg0 c + 1048576 * dg1 c + 1099511627776 * dh2 c + 1152921504606846976 * dh3 c = c := by
  unfold dg1 dh2 dh3 dg0
  show (c + -(1048576 * dgv c)) + 1048576 * (dgv c + -(1048576 * dgv (dgv c))) + 1099511627776 * (dgv (dgv c) + -(1048576 * dgv (dgv (dgv c)))) + 1152921504606846976 * dgv (dgv (dgv c)) = c
  omega
theorem emz_sum4 (ρ : Nat → Int) : ∀ l : List (Nat × Int), evl ρ (emz dg0 l) + 1048576 * evl ρ (emz dg1 l) + 1099511627776 * evl ρ (emz dh2 l) + 1152921504606846976 * evl ρ (emz dh3 l) = evl ρ l
  | [] => rfl
  | q :: l => by
    rw [emz_ev, emz_ev, emz_ev, emz_ev]
    have ih := emz_sum4 ρ l
    have h : (dg0 q.2 + 1048576 * dg1 q.2 + 1099511627776 * dh2 q.2 + 1152921504606846976 * dh3 q.2) * ρ q.1 = q.2 * ρ q.1 := congrArg (fun z => z * ρ q.1) (dh_sum q.2)
    rw [Int.add_mul, Int.add_mul, Int.add_mul, Int.mul_assoc, Int.mul_assoc, Int.mul_assoc] at h
    show _ = q.2 * ρ q.1 + evl ρ l
    omega
theorem esp_ev4 (ρ : Nat → Int) (e : ae) : ev ρ e = ev ρ (esp dg0 e) + 1048576 * ev ρ (esp dg1 e) + 1099511627776 * ev ρ (esp dh2 e) + 1152921504606846976 * ev ρ (esp dh3 e) := by
  have h1 := dh_sum e.1
  have h2 := emz_sum4 ρ e.2
  show e.1 + evl ρ e.2 = (dg0 e.1 + evl ρ (emz dg0 e.2)) + 1048576 * (dg1 e.1 + evl ρ (emz dg1 e.2)) + 1099511627776 * (dh2 e.1 + evl ρ (emz dh2 e.2)) + 1152921504606846976 * (dh3 e.1 + evl ρ (emz dh3 e.2))
  omega
theorem vdec4 {e a b c d : Int} (he : e = a + 1048576 * b + 1099511627776 * c + 1152921504606846976 * d) (h1 : 0 ≤ a) (h2 : a ≤ 1048575) (h3 : 0 ≤ b) (h4 : b ≤ 1048575) (h5 : 0 ≤ c) (h6 : c ≤ 1048575) : vq0 e = a ∧ vq1 e = b ∧ vq2 e = c ∧ vq3 e = d := by
  unfold vq0 vq1 vq2 vq3
  have e1 : e / 1048576 = b + 1048576 * c + 1099511627776 * d := by omega
  have e2 : e / 1048576 / 1048576 = c + 1048576 * d := by rw [e1]; omega
  refine ⟨by omega, by rw [e1]; omega, by rw [e2]; omega, by rw [e2]; omega⟩
/-- value, how many, the other, first place -/
abbrev ad4 : Type := ae × ae × ae × ae
noncomputable def gde4 (env : aenv) (fx : List ae) (E : ae) : Option ad4 := efrc (esp dg0 E) (fun a => efrc (esp dg1 E) (fun b => efrc (esp dh2 E) (fun c => efrc (esp dh3 E) (fun d => cond (cond (cond (efit env fx a 0 1048575) (efit env fx b 0 1048575) false) (cond (efit env fx c 0 1048575) (elef env fx 2 (escl d (-1))) false) false) (some (a, b, c, d)) none))))
theorem gde4_ok {env : aenv} {fx : List ae} {ρ : Nat → Int} (hE : envR env ρ) (hX : fxR fx ρ) {E : ae} {q : ad4} (h : gde4 env fx E = some q) : (vq0 (ev ρ E) = ev ρ q.1 ∧ vq1 (ev ρ E) = ev ρ q.2.1 ∧ vq2 (ev ρ E) = ev ρ q.2.2.1 ∧ vq3 (ev ρ E) = ev ρ q.2.2.2) ∧ 0 ≤ ev ρ q.1 ∧ 0 ≤ ev ρ q.2.1 ∧ 0 ≤ ev ρ q.2.2.1 ∧ 0 ≤ ev ρ q.2.2.2 := by
  unfold gde4 at h
  rw [efrc_eq, efrc_eq, efrc_eq, efrc_eq] at h
  obtain ⟨h1, h2⟩ := xcnd h
  obtain ⟨a1, a2⟩ := xcnb h1
  obtain ⟨b1, b2⟩ := xcnb a1
  obtain ⟨b3, b4⟩ := xcnb a2
  have b1 := efit_ok hE hX b1
  have b2 := efit_ok hE hX b2
  have b3 := efit_ok hE hX b3
  have b4 := elef_ok hE hX 2 _ b4
  rw [escl_ev] at b4
  have e := Option.some.inj h2
  rw [← e]
  exact ⟨vdec4 (esp_ev4 ρ E) b1.1 b1.2 b2.1 b2.2 b3.1 b3.2, b1.1, b2.1, b3.1, by show 0 ≤ ev ρ (esp dh3 E); omega⟩
/-- equal, by the facts -/
noncomputable def efq (env : aenv) (fx : List ae) (a b : ae) : Bool := cond (eeqb a b) true (cond (elef env fx 2 (eadd a b (-1))) (elef env fx 2 (eadd b a (-1))) false)
theorem efq_ok {env : aenv} {fx : List ae} {ρ : Nat → Int} (hE : envR env ρ) (hX : fxR fx ρ) {a b : ae} (h : efq env fx a b = true) : ev ρ a = ev ρ b := by
  rcases xcnt h with h | h
  · rw [eeqb_ok h]
  · obtain ⟨h1, h2⟩ := xcnb h
    have h1 := elef_ok hE hX 2 _ h1
    have h2 := elef_ok hE hX 2 _ h2
    rw [eadd_ev] at h1 h2
    omega
/-- ghosts that say what a loop over a row gives: kind, cell, numbers -/
abbrev agf : Type := Nat × Nat × ad4
noncomputable def gfl (env : aenv) (fx : List ae) : List gho → List agf
  | [] => []
  | y :: l => cond (cond (Nat.ble 8 y.1) (Nat.ble y.1 13) false) (match gde4 env fx y.2.2.2 with
    | none => gfl env fx l
    | some D => (y.1, y.2.1, D) :: gfl env fx l) (gfl env fx l)
/-- y's row is as x's place by place, as far as x goes -/
noncomputable def gsh2 (env : aenv) (fx : List ae) (gh : List gho) (x y : agf) : Bool :=
  cond (efq env fx x.2.2.2.1 y.2.2.2.1) (cond (efq env fx y.2.2.2.2.2 (0, [])) (gcov env fx (gpcs env fx y.2.1 x.2.1 x.2.2.2.2.2 gh) x.2.2.2.1 3 (0, [])) false) false
noncomputable def gff {α : Type} (f : agf → Option α) : List agf → Option α
  | [] => none
  | x :: l => match f x with
    | some e => some e
    | none => gff f l
theorem gff_ok {α : Type} {f : agf → Option α} {e : α} : ∀ {l : List agf}, gff f l = some e → ∃ x ∈ l, f x = some e
  | [], h => by cases h
  | x :: l, h => by
    unfold gff at h
    cases hx : f x with
    | some e' =>
      rw [hx] at h
      have e1 : e' = e := Option.some.inj h
      exact ⟨x, List.mem_cons_self, by rw [hx, e1]⟩
    | none =>
      rw [hx] at h
      obtain ⟨y, h1, h2⟩ := gff_ok h
      exact ⟨y, List.mem_cons_of_mem _ h1, h2⟩
/-- z: the first greatest of y's row (kind 8, none left out), as far as y goes, is w -/
noncomputable def gf8 (env : aenv) (fx : List ae) (y z : agf) (w : ae) : Bool :=
  cond (cond (Nat.beq z.1 8) (Nat.beq z.2.1 y.2.1) false) (cond (cond (efq env fx z.2.2.2.1 y.2.2.2.1) (efq env fx z.2.2.2.2.2 y.2.2.2.2.2) false) (cond (efq env fx z.2.2.2.2.1 (0, [])) (efq env fx z.2.2.1 (eadc w 1)) false) false) false
/-- u: y's row is within bounds, as far as y goes -/
noncomputable def gf11 (env : aenv) (fx : List ae) (y u : agf) : Bool :=
  cond (cond (Nat.beq u.1 11) (Nat.beq u.2.1 y.2.1) false) (cond (cond (efq env fx u.2.2.2.1 y.2.2.2.1) (efq env fx u.2.2.2.2.2 y.2.2.2.2.2) false) (efq env fx u.2.2.1 (1, [])) false) false
noncomputable def gvw (tyt : Lean.RArray (Nat × Nat)) (env : aenv) (mem : List am) (c : Nat) (i : ae) : Option ae := match xg tyt c with
  | none => none
  | some t => gnuw env mem t c i
/-- what the answer is -/
noncomputable def hr1 (tyt : Lean.RArray (Nat × Nat)) (env : aenv) (fx : List ae) (mem : List am) (gh : List gho) (F : List agf) (rv : ae) (x y : agf) : Option ae :=
  match x.1 with
  | 8 => cond (cond (Nat.beq y.1 8) (cond (efq env fx x.2.2.1 (eadc rv 1)) (efq env fx x.2.2.2.2.1 y.2.2.2.2.1) false) false) (cond (gsh2 env fx gh x y) (some (eadc y.2.2.1 (-1))) none) none
  | 9 => cond (efq env fx x.2.2.1 rv) (match y.1 with
    | 13 => cond (gsh2 env fx gh x y) (cond (F.any (fun z => gf8 env fx y z y.2.2.2.2.1)) (some y.2.2.1) none) none
    | 10 => cond (efq env fx y.2.2.1 (1, [])) (cond (gsh2 env fx gh x y) (cond (F.any (fun z => gf8 env fx y z y.2.2.2.2.1)) (cond (F.any (fun u => gf11 env fx y u)) (gvw tyt env mem y.2.1 (eadd y.2.2.2.2.2 y.2.2.2.2.1 1)) none) none) none) none
    | _ => none) none
  | _ => none
/-- what is known of it -/
noncomputable def hr2 (tyt : Lean.RArray (Nat × Nat)) (env : aenv) (fx : List ae) (mem : List am) (gh : List gho) (F : List agf) (rv : ae) (x y : agf) : Option ae :=
  cond (cond (Nat.beq x.1 9) (Nat.beq y.1 10) false) (cond (cond (efq env fx x.2.2.1 rv) (efq env fx y.2.2.1 (0, [])) false) (cond (elef env fx 2 (eadd (2, []) y.2.2.2.1 (-1))) (cond (gsh2 env fx gh x y) (cond (F.any (fun z => gf8 env fx y z y.2.2.2.2.1)) (cond (F.any (fun u => gf11 env fx y u)) (match gvw tyt env mem y.2.1 (eadd y.2.2.2.2.2 y.2.2.2.2.1 1) with
    | none => none
    | some w => some (eadc (eadd rv w (-1)) 1)) none) none) none) none) none) none
/-- what can't be -/
noncomputable def hr0 (env : aenv) (fx : List ae) (gh : List gho) (x y : agf) : Bool :=
  cond (cond (Nat.beq x.1 11) (Nat.beq y.1 11) false) (cond (cond (cond (efq env fx x.2.2.1 (0, [])) (efq env fx y.2.2.1 (1, [])) false) true (cond (efq env fx x.2.2.1 (1, [])) (efq env fx y.2.2.1 (0, [])) false)) (gsh2 env fx gh x y) false) false
noncomputable def zHR (tyt : Lean.RArray (Nat × Nat)) (env : aenv) (fx : List ae) (mem : List am) (gh : List gho) (rv : av) : Option (av × List ae) := match gfl env fx gh with
  | [] => some (rv, [])
  | x :: l => cond ((x :: l).any (fun a => (x :: l).any (fun b => hr0 env fx gh a b))) none
    (cond (Nat.beq rv.1 0) (match gff (fun a => gff (fun b => hr1 tyt env fx mem gh (x :: l) rv.2.2 a b) (x :: l)) (x :: l) with
      | some e => some ((rv.1, rv.2.1, e), [])
      | none => match gff (fun a => gff (fun b => hr2 tyt env fx mem gh (x :: l) rv.2.2 a b) (x :: l)) (x :: l) with
        | some f => some (rv, [f])
        | none => some (rv, [])) (some (rv, [])))
