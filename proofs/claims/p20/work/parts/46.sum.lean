/-! What is known of a method, used at a call -/
/-- type, cell if it is one, from, to (from 2^31 on: to the end) -/
abbrev awr : Type := Nat × Option Nat × Int × Int
def awc (tyt : Lean.RArray (Nat × Nat)) (wr : List awr) (k j : Nat) : Prop := ∃ w ∈ wr, xg tyt k = some w.1 ∧ (∀ c, w.2.1 = some c → k = c) ∧ w.2.2.1 ≤ (j : Int) ∧ (2147483648 ≤ w.2.2.2 ∨ (j : Int) ≤ w.2.2.2)
noncomputable def aWK (wr : List awr) (env : aenv) (fx : List ae) (t : Nat) (c i : ae) : Bool :=
  wr.any (fun w => cond (Nat.beq w.1 t) (cond (match w.2.1 with
    | none => true
    | some k => (match c.2 with
      | [] => zeq c.1 (k : Int)
      | _ => false)) (efit env fx i w.2.2.1 w.2.2.2) false) false)
noncomputable def aWA (wr : List awr) (_env : aenv) (_fx : List ae) (t : Nat) (c : ae) : Bool :=
  wr.any (fun w => cond (Nat.beq w.1 t) (cond (match w.2.1 with
    | none => true
    | some k => (match c.2 with
      | [] => zeq c.1 (k : Int)
      | _ => false)) (cond (zle w.2.2.1 0) (zle 2147483648 w.2.2.2) false) false) false)
theorem awcell {c : ae} {w : Option Nat} {ρ : Nat → Int} {k : Nat} (hc : ev ρ c = (k : Int)) (h : (match w with
    | none => true
    | some k => (match c.2 with
      | [] => zeq c.1 (k : Int)
      | _ => false)) = true) : ∀ x, w = some x → k = x := by
  intro x e
  subst e
  dsimp only at h
  split at h
  · rename_i hn
    have e1 := zeq_iff.mp h
    have : ev ρ c = c.1 := by unfold ev; rw [hn]; show _ + 0 = _; omega
    omega
  · cases h
theorem aWK_ok {tyt : Lean.RArray (Nat × Nat)} {wr : List awr} : aWOK tyt (aWK wr) (awc tyt wr) := by
  intro env fx t c i ρ k j h hE hF hc hi ht
  obtain ⟨w, hw, h⟩ := List.any_eq_true.mp h
  obtain ⟨h1, h⟩ := xcnb h
  obtain ⟨h2, h3⟩ := xcnb h
  have hb := efit_ok hE hF h3
  rw [hi] at hb
  exact ⟨w, hw, by rw [xeqb h1]; exact ht, awcell hc h2, hb.1, Or.inr hb.2⟩
theorem aWA_ok {tyt : Lean.RArray (Nat × Nat)} {wr : List awr} : aWOA tyt (aWA wr) (awc tyt wr) := by
  intro env fx t c ρ k h hE hF hc ht j
  obtain ⟨w, hw, h⟩ := List.any_eq_true.mp h
  obtain ⟨h1, h⟩ := xcnb h
  obtain ⟨h2, h3⟩ := xcnb h
  obtain ⟨h4, h5⟩ := xcnb h3
  have h4 := zle_iff.mp h4
  exact ⟨w, hw, by rw [xeqb h1]; exact ht, awcell hc h2, by omega, Or.inl (zle_iff.mp h5)⟩
/-- all of these writes are among those -/
def aws1 (w v : awr) : Bool := cond (Nat.beq v.1 w.1) (cond (match v.2.1 with
    | none => true
    | some c => (match w.2.1 with
      | none => false
      | some d => Nat.beq c d)) (cond (zle v.2.2.1 w.2.2.1) (cond (zle 2147483648 v.2.2.2) true (cond (zle 2147483648 w.2.2.2) false (zle w.2.2.2 v.2.2.2))) false) false) false
def awsb (l m : List awr) : Bool := l.all (fun w => m.any (fun v => aws1 w v))
theorem awsb_ok {tyt : Lean.RArray (Nat × Nat)} {l m : List awr} (h : awsb l m = true) {k j : Nat} (hw : awc tyt l k j) : awc tyt m k j := by
  obtain ⟨w, hw, a1, a2, a3, a4⟩ := hw
  obtain ⟨v, hv, h⟩ := List.any_eq_true.mp (List.all_eq_true.mp h w hw)
  obtain ⟨h1, h⟩ := xcnb h
  obtain ⟨h2, h⟩ := xcnb h
  obtain ⟨h3, h⟩ := xcnb h
  have h3 := zle_iff.mp h3
  refine ⟨v, hv, by rw [xeqb h1]; exact a1, fun c hc => ?_, by omega, ?_⟩
  · rw [hc] at h2
    dsimp only at h2
    split at h2
    · cases h2
    · rename_i d hd
      have : c = d := xeqb h2
      rw [this]
      exact a2 d hd
  · rcases xcnt h with q | q
    · exact Or.inl (zle_iff.mp q)
    · right
      cases hb : zle 2147483648 w.2.2.2 with
      | true => rw [hb] at q; cases q
      | false =>
        rw [hb] at q
        have q := zle_iff.mp (show zle w.2.2.2 v.2.2.2 = true from q)
        have := zle_f hb
        rcases a4 with a4 | a4
        · omega
        · omega
/-- a place that the writes don't meet -/
noncomputable def akw1 (env : aenv) (m : am) (w : awr) : Bool := cond (Nat.beq w.1 m.1) (cond (Nat.beq m.2.2.2.1 4) true (cond (match w.2.1 with
    | none => false
    | some c => ene env m.2.1 ((c : Int), [])) true (cond (match eu env m.2.2.1 with
      | none => false
      | some u => zlt u w.2.2.1) true (cond (zle 2147483648 w.2.2.2) false (efrc (escl m.2.2.1 (-1)) (fun n => match eu env n with
        | none => false
        | some u => zlt u (Int.neg w.2.2.2))))))) true
noncomputable def akwf (env : aenv) (wr : List awr) : List am → (List am → Bool) → Bool
  | [], k => k []
  | m :: l, k => cond (wr.all (fun w => akw1 env m w)) (akwf env wr l (fun r => k (m :: r))) (akwf env wr l k)
theorem akwf_ok (env : aenv) (wr : List awr) : ∀ (mem : List am) (k : List am → Bool), ∃ r, akwf env wr mem k = k r ∧ ∀ m ∈ r, m ∈ mem ∧ wr.all (fun w => akw1 env m w) = true
  | [], k => ⟨[], rfl, fun _ h => absurd h List.not_mem_nil⟩
  | m :: l, k => by
    unfold akwf
    cases hb : wr.all (fun w => akw1 env m w) with
    | true =>
      obtain ⟨r, h1, h2⟩ := akwf_ok env wr l (fun r => k (m :: r))
      refine ⟨m :: r, h1, fun x hx => ?_⟩
      rcases List.mem_cons.mp hx with e | hx
      · rw [e]; exact ⟨List.mem_cons_self, hb⟩
      · exact ⟨List.mem_cons_of_mem _ (h2 x hx).1, (h2 x hx).2⟩
    | false =>
      obtain ⟨r, h1, h2⟩ := akwf_ok env wr l k
      exact ⟨r, h1, fun x hx => ⟨List.mem_cons_of_mem _ (h2 x hx).1, (h2 x hx).2⟩⟩
theorem akw_keep {h0 : xheap} {tyt : Lean.RArray (Nat × Nat)} {env : aenv} {wr : List awr} {ρ : Nat → Int} {g g' : cg} (hE : envR env ρ) (hg : ∀ k j : Nat, ¬ awc tyt wr k j → g' k j = g k j) {m : am} (hm : amR h0 tyt ρ g m) (h : wr.all (fun w => akw1 env m w) = true) : amR h0 tyt ρ g' m := by
  obtain ⟨k, j, v, a1, a2, a3, ⟨q, w, b1, b2, b3⟩, a5⟩ := hm
  by_cases ht : m.2.2.2.1 = 4
  · have hv : v.1 = 4 := by
      obtain ⟨kk, e, -⟩ := avR_ref a5 ht
      rw [e]
    rw [b3] at hv
    refine ⟨k, j, v, a1, a2, a3, ⟨q, w, b1, b2, ?_⟩, a5⟩
    rw [b3]
    exact (cval_ref hv).symm
  · have hn : ¬ awc tyt wr k j := by
      intro ⟨u, hu, c1, c2, c3, c4⟩
      have h := List.all_eq_true.mp h u hu
      unfold akw1 at h
      have e : u.1 = m.1 := Option.some.inj (c1.symm.trans a3)
      rw [xnb1 e] at h
      simp only [cond_true] at h
      have ht' : Nat.beq m.2.2.2.1 4 = false := by
        cases hb : Nat.beq m.2.2.2.1 4 with
        | false => rfl
        | true => exact absurd (xeqb hb) ht
      rw [ht'] at h
      simp only [cond_false] at h
      rcases xcnt h with h | h
      · split at h
        · cases h
        · rename_i c hc
          have := ene_ok hE h
          rw [a1, evc] at this
          exact this (by rw [c2 c hc])
      · rcases xcnt h with h | h
        · split at h
          · cases h
          · rename_i x hx
            have := eu_ok hE hx
            have := zlt_iff.mp h
            omega
        · cases hb : zle 2147483648 u.2.2.2 with
          | true => rw [hb] at h; cases h
          | false =>
            rw [hb] at h
            simp only [cond_false] at h
            rw [efrc_eq] at h
            split at h
            · cases h
            · rename_i x hx
              have := eu_ok hE hx
              rw [escl_ev] at this
              have h : x < -u.2.2.2 := zlt_iff.mp h
              have := zle_f hb
              rcases c4 with c4 | c4 <;> omega
    refine ⟨k, j, v, a1, a2, a3, ⟨q, w, b1, b2, ?_⟩, a5⟩
    rw [hg k j hn]
    exact b3
/-! patterns speak of their own symbols alone -/
def awfv (n : Nat) (a : av) : Bool := ewf n a.2.2.2
def awfP (P : apat) : Bool :=
  cond (P.1.all (fun q => awfv P.2.2.2.2.1.length q.2)) (cond (P.2.1.all (awfv P.2.2.2.2.1.length)) (cond (match P.2.2.1 with
    | none => true
    | some a => awfv P.2.2.2.2.1.length a) (cond (P.2.2.2.1.all (fun m => cond (ewf P.2.2.2.2.1.length m.2.1.2) (cond (ewf P.2.2.2.2.1.length m.2.2.1.2) (awfv P.2.2.2.2.1.length m.2.2.2) false) false)) (cond (P.2.2.2.2.2.1.all (fun f => ewf P.2.2.2.2.1.length f.2)) (P.2.2.2.2.2.2.1.all (fun x => cond (ewf P.2.2.2.2.1.length x.2.2.2.2) (cond (cond (Nat.beq x.1 50) true (Nat.beq x.1 51)) (Nat.blt x.2.1 P.2.2.2.2.1.length) true) false)) false) false) false) false) false
section Cong
variable {h0 : xheap} {tyt : Lean.RArray (Nat × Nat)} {sv : Nat → Int32} {el : Nat → Nat} {GH : Nat → Nat → Nat → Int → cg → Prop} {n : Nat} {ρ τ : Nat → Int}
theorem avR_ag (ha : aag n ρ τ) : ∀ {a : av} {v : cv}, awfv n a = true → avR tyt ρ a v → avR tyt τ a v := by
  intro a v hw h
  have e : ev τ a.2.2 = ev ρ a.2.2 := ewf_ev ha hw
  obtain ⟨t, ty, ex⟩ := a
  have e : ev τ ex = ev ρ ex := e
  match t, h with
  | 0, h => exact ⟨by rw [e]; exact h.1, by rw [e]; exact h.2⟩
  | 1, h => exact h.elim
  | 2, h => exact ⟨by rw [e]; exact h.1, by rw [e]; exact h.2⟩
  | 3, h => exact h.elim
  | 4, h =>
    obtain ⟨k, k1, k2, k3⟩ := h
    exact ⟨k, k1, e.trans k2, k3⟩
  | 5, h => exact h
  | 6, h => exact h
  | 7, h => exact h.elim
  | 8, h => exact h.elim
  | 9, h =>
    show v = (0, csgn (ev τ ex))
    rw [e]; exact h
  | 10, h => exact h
  | _ + 11, h => exact h.elim
theorem stR_ag (ha : aag n ρ τ) : ∀ {l : List av} {m : List cv}, l.all (awfv n) = true → stR tyt ρ l m → stR tyt τ l m
  | [], [], _, _ => trivial
  | [], _ :: _, _, h => h.elim
  | _ :: _, [], _, h => h.elim
  | a :: l, v :: m, hw, h => by
    obtain ⟨w1, w2⟩ := xand (show (awfv n a && l.all (awfv n)) = true from hw)
    exact ⟨avR_ag ha w1 h.1, stR_ag ha w2 h.2⟩
theorem lsR_ag (ha : aag n ρ τ) : ∀ {l : List (Nat × av)} {m : List (Nat × cv)}, l.all (fun q => awfv n q.2) = true → lsR tyt ρ l m → lsR tyt τ l m
  | [], [], _, _ => trivial
  | [], _ :: _, _, h => h.elim
  | _ :: _, [], _, h => h.elim
  | a :: l, v :: m, hw, h => by
    obtain ⟨w1, w2⟩ := xand (show (awfv n a.2 && l.all (fun q => awfv n q.2)) = true from hw)
    exact ⟨h.1, avR_ag ha w1 h.2.1, lsR_ag ha w2 h.2.2⟩
theorem agt_lt {α : Type} : ∀ {l : List α} {i : Nat} {x : α}, agt l i = some x → i < l.length
  | [], _, _, h => by cases h
  | _ :: l, 0, _, _ => by simp
  | _ :: l, i + 1, x, h => by
    have := agt_lt (l := l) (i := i) (x := x) h
    simp; omega
theorem patR_ag {P : apat} {g : cg} {lsc : List (Nat × cv)} {stc : List cv} {rv : Option cv} (hw : awfP P = true) (ha : aag P.2.2.2.2.1.length ρ τ) (h : patR h0 tyt (aGSd sv el GH) P ρ g lsc stc rv) : patR h0 tyt (aGSd sv el GH) P τ g lsc stc rv := by
  obtain ⟨w1, hw⟩ := xcnb hw
  obtain ⟨w2, hw⟩ := xcnb hw
  obtain ⟨w3, hw⟩ := xcnb hw
  obtain ⟨w4, hw⟩ := xcnb hw
  obtain ⟨w5, w6⟩ := xcnb hw
  obtain ⟨h1, h2, h3, h4, h5, h6, h7⟩ := h
  refine ⟨lsR_ag ha w1 h1, stR_ag ha w2 h2, ?_, fun m hm => ?_, fun s i hs => ?_, fun f hf => ?_, fun x hx => ?_⟩
  · cases hp : P.2.2.1 with
    | none => rw [hp] at h3; cases rv with
      | none => trivial
      | some v => exact h3.elim
    | some a =>
      rw [hp] at h3 w3
      cases rv with
      | none => exact h3.elim
      | some v => exact avR_ag ha w3 h3
  · have w := List.all_eq_true.mp w4 m hm
    obtain ⟨x1, w⟩ := xcnb w
    obtain ⟨x2, x3⟩ := xcnb w
    obtain ⟨k, j, v, a1, a2, a3, a4, a5⟩ := h4 m hm
    exact ⟨k, j, v, (ewf_ev ha x1).trans a1, (ewf_ev ha x2).trans a2, a3, a4, avR_ag ha x3 a5⟩
  · have := agt_lt hs
    rw [ha s this]
    exact h5 s i hs
  · rw [ewf_ev ha (List.all_eq_true.mp w5 f hf)]
    exact h6 f hf
  · have w := List.all_eq_true.mp w6 x hx
    obtain ⟨x1, x2⟩ := xcnb w
    refine aGSd_sub (ρ := ρ) (e := x.2.2.2) (fun hk => ?_) (ewf_ev ha x1).symm (h7 x hx)
    have hb : cond (Nat.beq x.1 50) true (Nat.beq x.1 51) = true := by
      rcases hk with q | q <;> rw [q] <;> rfl
    rw [hb] at x2
    exact ha _ (xltb x2)
end Cong
