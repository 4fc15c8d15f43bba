/-! Ghosts: the trials' rows are as their kind says; copies -/
/-- type, cell, first place, distance -/
abbrev afc : Type := Nat × Nat × Nat × Nat
/-- the number of rows (type, cell, place), the kinds' column, the others, rules (kind from, to, column, least, most) -/
abbrev afam : Type := (Nat × Nat × Nat) × afc × List afc × List (Int × Int × Nat × Int × Int)
def gRI (F : afam) (d : Nat) (g : cg) : Prop :=
  g F.1.2.1 F.1.2.2 ≤ 60 ∧ ∀ r : Nat, (r : Int) < g F.1.2.1 F.1.2.2 - (d : Int) → ∀ q ∈ F.2.2.2, q.1 ≤ g F.2.1.2.1 (F.2.1.2.2.1 + F.2.1.2.2.2 * r) → g F.2.1.2.1 (F.2.1.2.2.1 + F.2.1.2.2.2 * r) ≤ q.2.1 → ∀ c : afc, agt F.2.2.1 q.2.2.1 = some c → q.2.2.2.1 ≤ g c.2.1 (c.2.2.1 + c.2.2.2 * r) ∧ g c.2.1 (c.2.2.1 + c.2.2.2 * r) ≤ q.2.2.2.2
/-- the sum of what is above 0, of the cell's first n places -/
def psum (g : cg) (k : Nat) : Nat → Int
  | 0 => 0
  | n + 1 => psum g k n + (if 0 ≤ g k n then g k n else 0)
theorem psum_cg {g g' : cg} {k : Nat} : ∀ {n : Nat}, (∀ j, j < n → g' k j = g k j) → psum g' k n = psum g k n
  | 0, _ => rfl
  | n + 1, h => by
    show psum g' k n + (if 0 ≤ g' k n then g' k n else 0) = psum g k n + (if 0 ≤ g k n then g k n else 0)
    rw [h n (by omega), psum_cg (fun j hj => h j (by omega))]
theorem psum_0 {g : cg} {k : Nat} : ∀ n : Nat, 0 ≤ psum g k n
  | 0 => Int.le_refl _
  | n + 1 => by
    have := psum_0 (g := g) (k := k) n
    show 0 ≤ psum g k n + (if 0 ≤ g k n then g k n else 0)
    split <;> omega
theorem psum_le {g : cg} {k : Nat} {m : Int} (hm : 0 ≤ m) : ∀ n : Nat, (∀ j, j < n → g k j ≤ m) → psum g k n ≤ (n : Int) * m
  | 0, _ => by show (0 : Int) ≤ _; rw [show ((0 : Nat) : Int) = 0 from rfl, Int.zero_mul]; omega
  | n + 1, h => by
    have h1 := psum_le hm n (fun j hj => h j (by omega))
    have h2 := h n (by omega)
    have e : ((n + 1 : Nat) : Int) * m = (n : Int) * m + m := by rw [show ((n + 1 : Nat) : Int) = (n : Int) + 1 from rfl, Int.add_mul, Int.one_mul]
    rw [e]
    show psum g k n + (if 0 ≤ g k n then g k n else 0) ≤ _
    split <;> omega
theorem psum_up {g : cg} {k j : Nat} {z : Int} (h1 : 0 ≤ g k j) (h2 : 0 ≤ z) : ∀ {n : Nat}, j < n → psum (cup g k j z) k n = psum g k n + z - g k j
  | 0, h => by omega
  | n + 1, h => by
    show psum (cup g k j z) k n + (if 0 ≤ cup g k j z k n then cup g k j z k n else 0) = psum g k n + (if 0 ≤ g k n then g k n else 0) + z - g k j
    by_cases e : n = j
    · subst e
      have e1 : cup g k n z k n = z := by unfold cup; rw [if_pos ⟨rfl, rfl⟩]
      rw [e1, psum_cg (g := g) (fun i hi => by unfold cup; rw [if_neg (fun q => by have := q.2; omega)]), if_pos h1, if_pos h2]
      omega
    · have e1 : cup g k j z k n = g k n := by unfold cup; rw [if_neg (fun q => e q.2)]
      rw [e1, psum_up h1 h2 (by omega)]
      omega
def gGH (fam : Lean.RArray (Nat × afam)) (AT : Nat) (π : Int) (k a b : Nat) (E : Int) (g : cg) : Prop :=
  match k with
  | 1 => ∀ F, xg fam a = some F → gRI F b g
  | 2 => ∀ j : Nat, (j : Int) < E → g AT (a + j) = g AT (b + j)
  | 3 => ∀ j : Nat, (j : Int) < E → g a j = g b j
  | 4 => psum g a b = π + E
  | _ => True
section Gho
variable {h0 : xheap} {tyt : Lean.RArray (Nat × Nat)} {GS : gho → (Nat → Int) → cg → Prop}
noncomputable def gnum (env : aenv) (mem : List am) (t k : Nat) (i : ae) : Option ae := match amg env t ((k : Int), []) i mem with
  | none => none
  | some v => cond (Nat.beq v.1 0) (some v.2.2) none
theorem gnum_ok {env : aenv} {fx : List ae} {mem : List am} {gh : List gho} {g : cg} {ρ : Nat → Int} (hC : coR h0 tyt GS env fx mem gh g ρ) {t k : Nat} {i e : ae} (h : gnum env mem t k i = some e) : ∃ j : Nat, ev ρ i = (j : Int) ∧ g k j = ev ρ e ∧ xg tyt k = some t := by
  unfold gnum at h
  cases ha : amg env t ((k : Int), []) i mem with
  | none => rw [ha] at h; cases h
  | some v =>
    rw [ha] at h
    obtain ⟨h1, h2⟩ := xcnd h
    have h2 : v.2.2 = e := Option.some.inj h2
    obtain ⟨k', j, w, a1, a2, ⟨q, ww, c1, c2, c3⟩, a4, a5⟩ := amg_okT hC.1 hC.2.2.1 ha
    rw [evc] at a1
    have ek : k' = k := by omega
    subst ek
    subst c3
    refine ⟨j, a2, ?_, a5⟩
    rw [avR_num a4 (Or.inl (xeqb h1)), h2]
/-- e by s, where s divides all -/
def edv (s : Int) (e : ae) : ae := (Int.ediv e.1 s, e.2.map (fun q => (q.1, Int.ediv q.2 s)))
theorem edvl_ev {s : Int} (ρ : Nat → Int) : ∀ {l : List (Nat × Int)}, zdvd s l = true → s * evl ρ (l.map (fun q => (q.1, Int.ediv q.2 s))) = evl ρ l
  | [], _ => Int.mul_zero s
  | q :: l, h => by
    obtain ⟨h1, h2⟩ := xcnb (show cond (zeq (Int.emod q.2 s) 0) (zdvd s l) false = true from h)
    have h3 : s ∣ q.2 := Int.dvd_of_emod_eq_zero (zeq_iff.mp h1)
    show s * (Int.ediv q.2 s * ρ q.1 + evl ρ (l.map (fun q => (q.1, Int.ediv q.2 s)))) = q.2 * ρ q.1 + evl ρ l
    rw [Int.mul_add, edvl_ev ρ h2, ← Int.mul_assoc]
    have e : s * Int.ediv q.2 s = q.2 := Int.mul_ediv_cancel' h3
    rw [e]
theorem edv_ev {s : Int} {e : ae} (ρ : Nat → Int) (h1 : zeq (Int.emod e.1 s) 0 = true) (h2 : zdvd s e.2 = true) : s * ev ρ (edv s e) = ev ρ e := by
  have h3 : s ∣ e.1 := Int.dvd_of_emod_eq_zero (zeq_iff.mp h1)
  show s * (Int.ediv e.1 s + evl ρ (e.2.map (fun q => (q.1, Int.ediv q.2 s)))) = e.1 + evl ρ e.2
  rw [Int.mul_add, edvl_ev ρ h2]
  have e : s * Int.ediv e.1 s = e.1 := Int.mul_ediv_cancel' h3
  rw [e]
noncomputable def ghkc (env : aenv) (fx : List ae) (mem : List am) (t : Nat) (c i : ae) (F : afam) (n : ae) (ci : Nat) (col : afc) (b : Int × Int) : Int × Int :=
  cond (cond (Nat.beq col.1 t) (cond (eeqb c ((col.2.1 : Int), [])) (cond (zeq (Int.emod (Int.add i.1 (Int.neg (col.2.2.1 : Int))) (col.2.2.2 : Int)) 0) (zdvd (col.2.2.2 : Int) i.2) false) false) false)
    (efrc (edv (col.2.2.2 : Int) (eadc i (Int.neg (col.2.2.1 : Int)))) (fun r => cond (cond (Nat.blt 0 col.2.2.2) (cond (elef env fx 2 (escl r (-1))) (elef env fx 2 (eadc (eadd r n (-1)) 1)) false) false)
      (match gnum env mem F.2.1.1 F.2.1.2.1 (eadc (escl r (F.2.1.2.2.2 : Int)) (F.2.1.2.2.1 : Int)) with
        | none => b
        | some K => match ebd env [] K with
          | none => b
          | some ik => F.2.2.2.foldl (fun b q => cond (Nat.beq q.2.2.1 ci) (cond (zle q.1 ik.1) (cond (zle ik.2 q.2.1) (zmx b.1 q.2.2.2.1, zmn b.2 q.2.2.2.2) b) b) b) b) b)) b
theorem ghkf {α : Type} {z : Int} {f : Int × Int → α → Int × Int} : ∀ (l : List α) (b : Int × Int), (∀ b, ∀ q ∈ l, b.1 ≤ z ∧ z ≤ b.2 → (f b q).1 ≤ z ∧ z ≤ (f b q).2) → b.1 ≤ z ∧ z ≤ b.2 → (l.foldl f b).1 ≤ z ∧ z ≤ (l.foldl f b).2
  | [], _, _, h => h
  | q :: l, b, hf, h => ghkf l (f b q) (fun b x hx => hf b x (List.mem_cons_of_mem _ hx)) (hf b q List.mem_cons_self h)
theorem ghkc_ok {env : aenv} {fx : List ae} {mem : List am} {gh : List gho} {g : cg} {ρ : Nat → Int} (hC : coR h0 tyt GS env fx mem gh g ρ) {t : Nat} {c i : ae} {F : afam} {n : ae} {ci : Nat} {col : afc} {b : Int × Int} {k j : Nat} (hc : ev ρ c = (k : Int)) (hi : ev ρ i = (j : Int)) (hn : g F.1.2.1 F.1.2.2 = ev ρ n) (hRI : gRI F 0 g) (hcol : agt F.2.2.1 ci = some col) (hb : b.1 ≤ g k j ∧ g k j ≤ b.2) : (ghkc env fx mem t c i F n ci col b).1 ≤ g k j ∧ g k j ≤ (ghkc env fx mem t c i F n ci col b).2 := by
  unfold ghkc
  cases h1 : (cond (Nat.beq col.1 t) (cond (eeqb c ((col.2.1 : Int), [])) (cond (zeq (Int.emod (Int.add i.1 (Int.neg (col.2.2.1 : Int))) (col.2.2.2 : Int)) 0) (zdvd (col.2.2.2 : Int) i.2) false) false) false) with
  | false => exact hb
  | true =>
    simp only [cond_true]
    rw [efrc_eq]
    obtain ⟨a1, h1⟩ := xcnb h1
    obtain ⟨a2, h1⟩ := xcnb h1
    obtain ⟨a3, a4⟩ := xcnb h1
    have er := edv_ev ρ (e := eadc i (Int.neg (col.2.2.1 : Int))) (s := (col.2.2.2 : Int)) a3 a4
    rw [eadc_ev, hi] at er
    generalize edv (col.2.2.2 : Int) (eadc i (Int.neg (col.2.2.1 : Int))) = r at er
    have er : (col.2.2.2 : Int) * ev ρ r = (j : Int) + -(col.2.2.1 : Int) := er
    cases h2 : (cond (Nat.blt 0 col.2.2.2) (cond (elef env fx 2 (escl r (-1))) (elef env fx 2 (eadc (eadd r n (-1)) 1)) false) false) with
    | false => exact hb
    | true =>
      simp only [cond_true]
      obtain ⟨b0, h2⟩ := xcnb h2
      obtain ⟨b1, b2⟩ := xcnb h2
      have b1 := elef_ok hC.1 hC.2.1 2 _ b1
      have b2 := elef_ok hC.1 hC.2.1 2 _ b2
      rw [escl_ev] at b1
      rw [eadc_ev, eadd_ev] at b2
      obtain ⟨rn, hrn⟩ : ∃ rn : Nat, ev ρ r = (rn : Int) := ⟨(ev ρ r).toNat, by omega⟩
      cases hK : gnum env mem F.2.1.1 F.2.1.2.1 (eadc (escl r (F.2.1.2.2.2 : Int)) (F.2.1.2.2.1 : Int)) with
      | none => exact hb
      | some K =>
        dsimp only
        cases hik : ebd env [] K with
        | none => exact hb
        | some ik =>
          dsimp only
          obtain ⟨jk, k1, k2, -⟩ := gnum_ok hC hK
          rw [eadc_ev, escl_ev, hrn] at k1
          have hkv := ebd_ok hC.1 (show fxR [] ρ from fun _ z => absurd z List.not_mem_nil) hik
          have ek : k = col.2.1 := by
            have := eeqb_ok a2
            rw [this, evc] at hc
            omega
          have ej : j = col.2.2.1 + col.2.2.2 * rn := by
            rw [hrn] at er
            have e2 : ((col.2.2.2 * rn : Nat) : Int) = (col.2.2.2 : Int) * (rn : Int) := Int.natCast_mul _ _
            omega
          have ejk : jk = F.2.1.2.2.1 + F.2.1.2.2.2 * rn := by
            have e2 : ((F.2.1.2.2.2 * rn : Nat) : Int) = (F.2.1.2.2.2 : Int) * (rn : Int) := Int.natCast_mul _ _
            omega
          refine ghkf _ b (fun b' q hq hb' => ?_) hb
          cases c1 : Nat.beq q.2.2.1 ci with
          | false => exact hb'
          | true =>
            simp only [cond_true]
            cases c2 : zle q.1 ik.1 with
            | false => exact hb'
            | true =>
              simp only [cond_true]
              cases c3 : zle ik.2 q.2.1 with
              | false => exact hb'
              | true =>
                simp only [cond_true]
                have c2 := zle_iff.mp c2
                have c3 := zle_iff.mp c3
                have key := hRI.2 rn (by rw [hn]; omega) q hq (by rw [← ejk, k2]; omega) (by rw [← ejk, k2]; omega) col (by rw [xeqb c1]; exact hcol)
                rw [← ej, ← ek] at key
                exact ⟨zmx_of hb'.1 key.1, zmn_of hb'.2 key.2⟩
noncomputable def ghkl (env : aenv) (fx : List ae) (mem : List am) (t : Nat) (c i : ae) (F : afam) (n : ae) : Nat → List afc → Int × Int → Int × Int
  | _, [], b => b
  | ci, col :: l, b => ghkl env fx mem t c i F n (ci + 1) l (ghkc env fx mem t c i F n ci col b)
theorem ghkl_ok {env : aenv} {fx : List ae} {mem : List am} {gh : List gho} {g : cg} {ρ : Nat → Int} (hC : coR h0 tyt GS env fx mem gh g ρ) {t : Nat} {c i : ae} {F : afam} {n : ae} {k j : Nat} (hc : ev ρ c = (k : Int)) (hi : ev ρ i = (j : Int)) (hn : g F.1.2.1 F.1.2.2 = ev ρ n) (hRI : gRI F 0 g) : ∀ (l : List afc) (ci : Nat) (b : Int × Int), (∀ x col, agt l x = some col → agt F.2.2.1 (ci + x) = some col) → b.1 ≤ g k j ∧ g k j ≤ b.2 → (ghkl env fx mem t c i F n ci l b).1 ≤ g k j ∧ g k j ≤ (ghkl env fx mem t c i F n ci l b).2
  | [], _, b, _, hb => hb
  | col :: l, ci, b, hx, hb => ghkl_ok hC hc hi hn hRI l (ci + 1) _ (fun x cl h => by have := hx (x + 1) cl h; rw [show ci + 1 + x = ci + (x + 1) by omega]; exact this) (ghkc_ok hC hc hi hn hRI (hx 0 col rfl) hb)
/-- what is loaded, by the rows' ghosts -/
noncomputable def gHK (fam : Lean.RArray (Nat × afam)) (env : aenv) (fx : List ae) (mem : List am) (gh : List gho) (t : Nat) (c i : ae) (b : Int × Int) : Int × Int :=
  gh.foldl (fun b x => cond (cond (Nat.beq x.1 1) (Nat.beq x.2.2.1 0) false) (match xg fam x.2.1 with
    | none => b
    | some F => match gnum env mem F.1.1 F.1.2.1 ((F.1.2.2 : Int), []) with
      | none => b
      | some n => ghkl env fx mem t c i F n 0 F.2.2.1 b) b) b
theorem gHK_ok {sv : Nat → Int32} {el : Nat → Nat} {fam : Lean.RArray (Nat × afam)} {AT : Nat} {π : Int} : aHK h0 tyt (aGSd sv el (gGH fam AT π)) (gHK fam) := by
  intro env fx mem gh g ρ t c i b k j hC hc hi ht hb1 hb2
  unfold gHK
  refine ghkf gh b (fun b' x hx hb' => ?_) ⟨hb1, hb2⟩
  cases h1 : cond (Nat.beq x.1 1) (Nat.beq x.2.2.1 0) false with
  | false => exact hb'
  | true =>
    obtain ⟨a1, a2⟩ := xcnb h1
    simp only [cond_true]
    cases hF : xg fam x.2.1 with
    | none => exact hb'
    | some F =>
      dsimp only
      cases hn : gnum env mem F.1.1 F.1.2.1 ((F.1.2.2 : Int), []) with
      | none => exact hb'
      | some n =>
        dsimp only
        obtain ⟨jn, n1, n2, -⟩ := gnum_ok hC hn
        rw [evc] at n1
        have ejn : jn = F.1.2.2 := by omega
        rw [ejn] at n2
        have hRI : gRI F 0 g := by
          have hg := hC.2.2.2 x hx
          obtain ⟨xk, xa, xb, xe⟩ := x
          have e1 : xk = 1 := xeqb a1
          have e2 : xb = 0 := xeqb a2
          subst e1; subst e2
          exact hg F hF
        exact ghkl_ok hC hc hi n2 hRI _ 0 b' (fun x' col h => by rw [Nat.zero_add]; exact h) hb'
end Gho
