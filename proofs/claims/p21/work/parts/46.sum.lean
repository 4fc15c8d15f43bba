section
/-! What is known of a method, used at a call -/
/-- type, cell if it is one, from, to (from 2^31 on: to the end) -/
abbrev awr : Type := Nat × Option Nat × Int × Int
def awc (tyt : Lean.RArray (Nat × Nat)) (wr : List awr) (k j : Nat) : Prop := ∃ w ∈ wr, xg tyt k = some w.1 ∧ (∀ c, w.2.1 = some c → k = c) ∧ w.2.2.1 ≤ (j : Int) ∧ (2147483648 ≤ w.2.2.2 ∨ (j : Int) ≤ w.2.2.2)
noncomputable def aWK (wr : List awr) (env : aenv) (fx : List ae) (t : Nat) (c i : ae) : Bool :=
  wr.any (fun w => cond (Nat.beq w.1 t) (cond (match w.2.1 with
    | none => true
    | some k => (match c.2 with
      | [] => zeq c.1 (k : Int)
      | _ => false)) (efit env fx i w.2.2.1 w.2.2.2) false) false)
noncomputable def aWA (wr : List awr) (_env : aenv) (_fx : List ae) (t : Nat) (c : ae) : Bool :=
  wr.any (fun w => cond (Nat.beq w.1 t) (cond (match w.2.1 with
    | none => true
    | some k => (match c.2 with
      | [] => zeq c.1 (k : Int)
      | _ => false)) (cond (zle w.2.2.1 0) (zle 2147483648 w.2.2.2) false) false) false)
theorem awcell {c : ae} {w : Option Nat} {ρ : Nat → Int} {k : Nat} (hc : ev ρ c = (k : Int)) (h : (match w with
    | none => true
    | some k => (match c.2 with
      | [] => zeq c.1 (k : Int)
      | _ => false)) = true) : ∀ x, w = some x → k = x := by
  intro x e
  subst e
  dsimp only at h
  split at h
  · rename_i hn
    have e1 := zeq_iff.mp h
    have : ev ρ c = c.1 := by unfold ev; rw [hn]; show _ + 0 = _; omega
    omega
  · cases h
theorem aWK_ok {tyt : Lean.RArray (Nat × Nat)} {wr : List awr} : aWOK tyt (aWK wr) (awc tyt wr) := by
  intro env fx t c i ρ k j h hE hF hc hi ht
  obtain ⟨w, hw, h⟩ := List.any_eq_true.mp h
  obtain ⟨h1, h⟩ := xcnb h
  obtain ⟨h2, h3⟩ := xcnb h
  have hb := efit_ok hE hF h3
  rw [hi] at hb
  exact ⟨w, hw, by rw [xeqb h1]; exact ht, awcell hc h2, hb.1, Or.inr hb.2⟩
theorem aWA_ok {tyt : Lean.RArray (Nat × Nat)} {wr : List awr} : aWOA tyt (aWA wr) (awc tyt wr) := by
  intro env fx t c ρ k h hE hF hc ht j
  obtain ⟨w, hw, h⟩ := List.any_eq_true.mp h
  obtain ⟨h1, h⟩ := xcnb h
  obtain ⟨h2, h3⟩ := xcnb h
  obtain ⟨h4, h5⟩ := xcnb h3
  have h4 := zle_iff.mp h4
  exact ⟨w, hw, by rw [xeqb h1]; exact ht, awcell hc h2, by omega, Or.inl (zle_iff.mp h5)⟩
/-- all of these writes are among those -/
def aws1 (w v : awr) : Bool := cond (Nat.beq v.1 w.1) (cond (match v.2.1 with
    | none => true
    | some c => (match w.2.1 with
      | none => false
      | some d => Nat.beq c d)) (cond (zle v.2.2.1 w.2.2.1) (cond (zle 2147483648 v.2.2.2) true (cond (zle 2147483648 w.2.2.2) false (zle w.2.2.2 v.2.2.2))) false) false) false
def awsb (l m : List awr) : Bool := l.all (fun w => m.any (fun v => aws1 w v))
theorem awsb_ok {tyt : Lean.RArray (Nat × Nat)} {l m : List awr} (h : awsb l m = true) {k j : Nat} (hw : awc tyt l k j) : awc tyt m k j := by
  obtain ⟨w, hw, a1, a2, a3, a4⟩ := hw
  obtain ⟨v, hv, h⟩ := List.any_eq_true.mp (List.all_eq_true.mp h w hw)
  obtain ⟨h1, h⟩ := xcnb h
  obtain ⟨h2, h⟩ := xcnb h
  obtain ⟨h3, h⟩ := xcnb h
  have h3 := zle_iff.mp h3
  refine ⟨v, hv, by rw [xeqb h1]; exact a1, fun c hc => ?_, by omega, ?_⟩
  · rw [hc] at h2
    dsimp only at h2
    split at h2
    · cases h2
    · rename_i d hd
      have : c = d := xeqb h2
      rw [this]
      exact a2 d hd
  · rcases xcnt h with q | q
    · exact Or.inl (zle_iff.mp q)
    · right
      cases hb : zle 2147483648 w.2.2.2 with
      | true => rw [hb] at q; cases q
      | false =>
        rw [hb] at q
        have q := zle_iff.mp (show zle w.2.2.2 v.2.2.2 = true from q)
        have := zle_f hb
        rcases a4 with a4 | a4
        · omega
        · omega
/-- a place that the writes don't meet -/
noncomputable def akw1 (env : aenv) (m : am) (w : awr) : Bool := cond (Nat.beq w.1 m.1) (cond (Nat.beq m.2.2.2.1 4) true (cond (match w.2.1 with
    | none => false
    | some c => ene env m.2.1 ((c : Int), [])) true (cond (match eu env m.2.2.1 with
      | none => false
      | some u => zlt u w.2.2.1) true (cond (zle 2147483648 w.2.2.2) false (efrc (escl m.2.2.1 (-1)) (fun n => match eu env n with
        | none => false
        | some u => zlt u (Int.neg w.2.2.2))))))) true
noncomputable def akwf (env : aenv) (wr : List awr) : List am → (List am → Bool) → Bool
  | [], k => k []
  | m :: l, k => cond (wr.all (fun w => akw1 env m w)) (akwf env wr l (fun r => k (m :: r))) (akwf env wr l k)
theorem akwf_ok (env : aenv) (wr : List awr) : ∀ (mem : List am) (k : List am → Bool), ∃ r, akwf env wr mem k = k r ∧ ∀ m ∈ r, m ∈ mem ∧ wr.all (fun w => akw1 env m w) = true
  | [], k => ⟨[], rfl, fun _ h => absurd h List.not_mem_nil⟩
  | m :: l, k => by
    unfold akwf
    cases hb : wr.all (fun w => akw1 env m w) with
    | true =>
      obtain ⟨r, h1, h2⟩ := akwf_ok env wr l (fun r => k (m :: r))
      refine ⟨m :: r, h1, fun x hx => ?_⟩
      rcases List.mem_cons.mp hx with e | hx
      · rw [e]; exact ⟨List.mem_cons_self, hb⟩
      · exact ⟨List.mem_cons_of_mem _ (h2 x hx).1, (h2 x hx).2⟩
    | false =>
      obtain ⟨r, h1, h2⟩ := akwf_ok env wr l k
      exact ⟨r, h1, fun x hx => ⟨List.mem_cons_of_mem _ (h2 x hx).1, (h2 x hx).2⟩⟩
theorem akw_keep {h0 : xheap} {tyt : Lean.RArray (Nat × Nat)} {env : aenv} {wr : List awr} {ρ : Nat → Int} {g g' : cg} (hE : envR env ρ) (hg : ∀ k j : Nat, ¬ awc tyt wr k j → g' k j = g k j) {m : am} (hm : amR h0 tyt ρ g m) (h : wr.all (fun w => akw1 env m w) = true) : amR h0 tyt ρ g' m := by
  obtain ⟨k, j, v, a1, a2, a3, ⟨q, w, b1, b2, b3⟩, a5⟩ := hm
  by_cases ht : m.2.2.2.1 = 4
  · have hv : v.1 = 4 := by
      obtain ⟨kk, e, -⟩ := avR_ref a5 ht
      rw [e]
    rw [b3] at hv
    refine ⟨k, j, v, a1, a2, a3, ⟨q, w, b1, b2, ?_⟩, a5⟩
    rw [b3]
    exact (cval_ref hv).symm
  · have hn : ¬ awc tyt wr k j := by
      intro ⟨u, hu, c1, c2, c3, c4⟩
      have h := List.all_eq_true.mp h u hu
      unfold akw1 at h
      have e : u.1 = m.1 := Option.some.inj (c1.symm.trans a3)
      rw [xnb1 e] at h
      simp only [cond_true] at h
      have ht' : Nat.beq m.2.2.2.1 4 = false := by
        cases hb : Nat.beq m.2.2.2.1 4 with
        | false => rfl
        | true => exact absurd (xeqb hb) ht
      rw [ht'] at h
      simp only [cond_false] at h
      rcases xcnt h with h | h
      · split at h
        · cases h
        · rename_i c hc
          have := ene_ok hE h
          rw [a1, evc] at this
          exact this (by rw [c2 c hc])
      · rcases xcnt h with h | h
        · split at h
          · cases h
          · rename_i x hx
            have := eu_ok hE hx
            have := zlt_iff.mp h
            omega
        · cases hb : zle 2147483648 u.2.2.2 with
          | true => rw [hb] at h; cases h
          | false =>
            rw [hb] at h
            simp only [cond_false] at h
            rw [efrc_eq] at h
            split at h
            · cases h
            · rename_i x hx
              have := eu_ok hE hx
              rw [escl_ev] at this
              have h : x < -u.2.2.2 := zlt_iff.mp h
              have := zle_f hb
              rcases c4 with c4 | c4 <;> omega
    refine ⟨k, j, v, a1, a2, a3, ⟨q, w, b1, b2, ?_⟩, a5⟩
    rw [hg k j hn]
    exact b3
/-! patterns speak of their own symbols alone -/
def awfv (n : Nat) (a : av) : Bool := ewf n a.2.2.2
def awfP (P : apat) : Bool :=
  cond (P.1.all (fun q => awfv P.2.2.2.2.1.length q.2)) (cond (P.2.1.all (awfv P.2.2.2.2.1.length)) (cond (match P.2.2.1 with
    | none => true
    | some a => awfv P.2.2.2.2.1.length a) (cond (P.2.2.2.1.all (fun m => cond (ewf P.2.2.2.2.1.length m.2.1.2) (cond (ewf P.2.2.2.2.1.length m.2.2.1.2) (awfv P.2.2.2.2.1.length m.2.2.2) false) false)) (cond (P.2.2.2.2.2.1.all (fun f => ewf P.2.2.2.2.1.length f.2)) (P.2.2.2.2.2.2.1.all (fun x => cond (ewf P.2.2.2.2.1.length x.2.2.2.2) (cond (cond (Nat.beq x.1 50) true (Nat.beq x.1 51)) (Nat.blt x.2.1 P.2.2.2.2.1.length) true) false)) false) false) false) false) false
section Cong
variable {h0 : xheap} {tyt : Lean.RArray (Nat × Nat)} {sv : Nat → Int32} {el : Nat → Nat} {GH : Nat → Nat → Nat → Int → cg → Prop} {n : Nat} {ρ τ : Nat → Int}
theorem avR_ag (ha : aag n ρ τ) : ∀ {a : av} {v : cv}, awfv n a = true → avR tyt ρ a v → avR tyt τ a v := by
  intro a v hw h
  have e : ev τ a.2.2 = ev ρ a.2.2 := ewf_ev ha hw
  obtain ⟨t, ty, ex⟩ := a
  have e : ev τ ex = ev ρ ex := e
  match t, h with
  | 0, h => exact ⟨by rw [e]; exact h.1, by rw [e]; exact h.2⟩
  | 1, h => exact h.elim
  | 2, h => exact ⟨by rw [e]; exact h.1, by rw [e]; exact h.2⟩
  | 3, h => exact h.elim
  | 4, h =>
    obtain ⟨k, k1, k2, k3⟩ := h
    exact ⟨k, k1, e.trans k2, k3⟩
  | 5, h => exact h
  | 6, h => exact h
  | 7, h => exact h.elim
  | 8, h => exact h.elim
  | 9, h =>
    show v = (0, csgn (ev τ ex))
    rw [e]; exact h
  | 10, h => exact h
  | _ + 11, h => exact h.elim
theorem stR_ag (ha : aag n ρ τ) : ∀ {l : List av} {m : List cv}, l.all (awfv n) = true → stR tyt ρ l m → stR tyt τ l m
  | [], [], _, _ => trivial
  | [], _ :: _, _, h => h.elim
  | _ :: _, [], _, h => h.elim
  | a :: l, v :: m, hw, h => by
    obtain ⟨w1, w2⟩ := xand (show (awfv n a && l.all (awfv n)) = true from hw)
    exact ⟨avR_ag ha w1 h.1, stR_ag ha w2 h.2⟩
theorem lsR_ag (ha : aag n ρ τ) : ∀ {l : List (Nat × av)} {m : List (Nat × cv)}, l.all (fun q => awfv n q.2) = true → lsR tyt ρ l m → lsR tyt τ l m
  | [], [], _, _ => trivial
  | [], _ :: _, _, h => h.elim
  | _ :: _, [], _, h => h.elim
  | a :: l, v :: m, hw, h => by
    obtain ⟨w1, w2⟩ := xand (show (awfv n a.2 && l.all (fun q => awfv n q.2)) = true from hw)
    exact ⟨h.1, avR_ag ha w1 h.2.1, lsR_ag ha w2 h.2.2⟩
theorem agt_lt {α : Type} : ∀ {l : List α} {i : Nat} {x : α}, agt l i = some x → i < l.length
  | [], _, _, h => by cases h
  | _ :: l, 0, _, _ => by simp
  | _ :: l, i + 1, x, h => by
    have := agt_lt (l := l) (i := i) (x := x) h
    simp; omega
theorem patR_ag {P : apat} {g : cg} {lsc : List (Nat × cv)} {stc : List cv} {rv : Option cv} (hw : awfP P = true) (ha : aag P.2.2.2.2.1.length ρ τ) (h : patR h0 tyt (aGSd sv el GH) P ρ g lsc stc rv) : patR h0 tyt (aGSd sv el GH) P τ g lsc stc rv := by
  obtain ⟨w1, hw⟩ := xcnb hw
  obtain ⟨w2, hw⟩ := xcnb hw
  obtain ⟨w3, hw⟩ := xcnb hw
  obtain ⟨w4, hw⟩ := xcnb hw
  obtain ⟨w5, w6⟩ := xcnb hw
  obtain ⟨h1, h2, h3, h4, h5, h6, h7⟩ := h
  refine ⟨lsR_ag ha w1 h1, stR_ag ha w2 h2, ?_, fun m hm => ?_, fun s i hs => ?_, fun f hf => ?_, fun x hx => ?_⟩
  · cases hp : P.2.2.1 with
    | none => rw [hp] at h3; cases rv with
      | none => trivial
      | some v => exact h3.elim
    | some a =>
      rw [hp] at h3 w3
      cases rv with
      | none => exact h3.elim
      | some v => exact avR_ag ha w3 h3
  · have w := List.all_eq_true.mp w4 m hm
    obtain ⟨x1, w⟩ := xcnb w
    obtain ⟨x2, x3⟩ := xcnb w
    obtain ⟨k, j, v, a1, a2, a3, a4, a5⟩ := h4 m hm
    exact ⟨k, j, v, (ewf_ev ha x1).trans a1, (ewf_ev ha x2).trans a2, a3, a4, avR_ag ha x3 a5⟩
  · have := agt_lt hs
    rw [ha s this]
    exact h5 s i hs
  · rw [ewf_ev ha (List.all_eq_true.mp w5 f hf)]
    exact h6 f hf
  · have w := List.all_eq_true.mp w6 x hx
    obtain ⟨x1, x2⟩ := xcnb w
    refine aGSd_sub (ρ := ρ) (e := x.2.2.2) (fun hk => ?_) (ewf_ev ha x1).symm (h7 x hx)
    have hb : cond (Nat.beq x.1 50) true (Nat.beq x.1 51) = true := by
      rcases hk with q | q <;> rw [q] <;> rfl
    rw [hb] at x2
    exact ha _ (xltb x2)
end Cong
end
section
/-! The ends of a method that was called -/
noncomputable def anew : List (Int × Int) → aenv → Nat → (List ae → aenv → Nat → Bool) → Bool
  | [], env, ne, k => k [] env ne
  | i :: l, env, ne, k => afrs i.1 i.2 env ne (fun env' ne' => anew l env' ne' (fun σ env ne2 => k (esym ne :: σ) env ne2))
def asy : Nat → Nat → List ae
  | _, 0 => []
  | s, n + 1 => esym s :: asy (s + 1) n
noncomputable def aasl : List ae → aenv → List ae → (aenv → List ae → Bool) → Bool
  | [], env, fx, k => k env fx
  | e :: l, env, fx, k => efrc e (fun e => aas env fx e (fun env fx => aasl l env fx k))
def aivl : List ae → List (Int × Int) → List ae
  | e :: σ, i :: l => eadc e (Int.neg i.2) :: eadd (i.1, []) e (-1) :: aivl σ l
  | _, _ => []
def adrp {α : Type} : Nat → List α → List α
  | 0, l => l
  | _ + 1, [] => []
  | n + 1, _ :: l => adrp n l
noncomputable def amsb (σ : List ae) : List am → (List am → Bool) → Bool
  | [], k => k []
  | m :: l, k => efrc (asub σ m.2.1) (fun c => efrc (asub σ m.2.2.1) (fun i => efrc (asub σ m.2.2.2.2.2) (fun e => amsb σ l (fun r => k ((m.1, c, i, (m.2.2.2.1, m.2.2.2.2.1, e)) :: r)))))
noncomputable def agsb (σ : List ae) : List gho → (List gho → Bool) → Bool
  | [], k => k []
  | x :: l, k => efrc (asub σ x.2.2.2) (fun e => agsb σ l (fun r => k ((x.1, x.2.1, x.2.2.1, e) :: r)))
noncomputable def apst (HW : aenv → List ae → List am → List gho → List awr → List gho) (wr : List awr) (P : apat) (σ : List ae) (mem : List am) (env : aenv) (fx : List ae) (gh : List gho) (ne : Nat) (k : Option av → List am → aenv → List ae → List gho → Nat → Bool) : Bool :=
  cond (σ.all (fun e => ewf ne e.2)) (anew (adrp σ.length P.2.2.2.2.1) env ne (fun nw env ne' =>
    aasl (aivl σ P.2.2.2.2.1 ++ P.2.2.2.2.2.1.map (asub (σ ++ nw))) env fx (fun env fx => aprp fx env (fun env => akwf env wr mem (fun r => amsb (σ ++ nw) P.2.2.2.1 (fun m => agsb (σ ++ nw) P.2.2.2.2.2.2.1 (fun gs =>
      match P.2.2.1 with
      | none => k none (m ++ r) env fx (gs ++ HW env fx mem gh wr) ne'
      | some a => efrc (asub (σ ++ nw) a.2.2) (fun e => k (some (a.1, a.2.1, e)) (m ++ r) env fx (gs ++ HW env fx mem gh wr) ne')))))))) false
theorem anew_ok : ∀ (l : List (Int × Int)) (env : aenv) (ne : Nat) (k : List ae → aenv → Nat → Bool), anew l env ne k = true → ∃ env', k (asy ne l.length) env' (ne + l.length) = true ∧ ∀ τ : Nat → Int, envR env τ → (∀ (i : Nat) (x : Int × Int), agt l i = some x → x.1 ≤ τ (ne + i) ∧ τ (ne + i) ≤ x.2) → envR env' τ
  | [], env, ne, k, h => ⟨env, h, fun _ h _ => h⟩
  | i :: l, env, ne, k, h => by
    unfold anew at h
    rw [afrs_eq] at h
    obtain ⟨env', h1, h2⟩ := anew_ok l _ _ _ h
    refine ⟨env', ?_, fun τ hE hb => ?_⟩
    · have e : ne + (i :: l).length = ne + 1 + l.length := by simp; omega
      rw [e]
      exact h1
    · refine h2 τ (envR_set hE (hb 0 i rfl).1 (hb 0 i rfl).2) (fun s x hs => ?_)
      have := hb (s + 1) x hs
      rw [show ne + 1 + s = ne + (s + 1) by omega]
      exact this
theorem asy_get : ∀ (n s i : Nat), i < n → agt (asy s n) i = some (esym (s + i))
  | 0, _, i, h => absurd h (Nat.not_lt_zero i)
  | n + 1, s, 0, _ => rfl
  | n + 1, s, i + 1, h => by
    show agt (asy (s + 1) n) i = _
    rw [asy_get n (s + 1) i (by omega), show s + 1 + i = s + (i + 1) by omega]
theorem agt_app {α : Type} : ∀ (a b : List α) (s : Nat), agt (a ++ b) s = if s < a.length then agt a s else agt b (s - a.length)
  | [], b, s => by simp
  | x :: a, b, 0 => by simp [agt]
  | x :: a, b, s + 1 => by
    show agt (a ++ b) s = _
    rw [agt_app a b s]
    simp only [List.length_cons]
    by_cases h : s < a.length
    · rw [if_pos h, if_pos (by omega)]; rfl
    · rw [if_neg h, if_neg (by omega), show s + 1 - (a.length + 1) = s - a.length by omega]
theorem agt_drp {α : Type} : ∀ (n : Nat) (l : List α) (i : Nat), agt (adrp n l) i = agt l (n + i)
  | 0, l, i => by rw [Nat.zero_add]; rfl
  | n + 1, [], i => by cases i <;> simp [adrp, agt]
  | n + 1, _ :: l, i => by
    show agt (adrp n l) i = _
    rw [agt_drp n l i, show n + 1 + i = (n + i) + 1 by omega]
    rfl
theorem adrp_len {α : Type} : ∀ (n : Nat) (l : List α), (adrp n l).length = l.length - n
  | 0, l => by simp [adrp]
  | n + 1, [] => by simp [adrp]
  | n + 1, _ :: l => by
    show (adrp n l).length = _
    rw [adrp_len n l]
    simp
theorem agt_some {α : Type} : ∀ {l : List α} {i : Nat}, i < l.length → ∃ x, agt l i = some x
  | [], i, h => absurd h (Nat.not_lt_zero i)
  | x :: _, 0, _ => ⟨x, rfl⟩
  | _ :: l, i + 1, h => agt_some (l := l) (i := i) (by simp at h; omega)
theorem agt_mem {α : Type} : ∀ {l : List α} {i : Nat} {x : α}, agt l i = some x → x ∈ l
  | [], _, _, h => by cases h
  | y :: l, 0, x, h => by
    have : y = x := Option.some.inj h
    rw [this]; exact List.mem_cons_self
  | _ :: l, i + 1, x, h => List.mem_cons_of_mem _ (agt_mem (l := l) (i := i) h)
theorem aasl_ok {P : (Nat → Int) → Prop} (hP : ∃ ρ, P ρ) : ∀ (l : List ae) (env : aenv) (fx : List ae) (k : aenv → List ae → Bool), aasl l env fx k = true → (∀ ρ, P ρ → envR env ρ ∧ fxR fx ρ ∧ ∀ e ∈ l, ev ρ e ≤ 0) → ∃ env' fx', k env' fx' = true ∧ ∀ ρ, P ρ → envR env' ρ ∧ fxR fx' ρ
  | [], env, fx, k, h, hR => ⟨env, fx, h, fun ρ p => ⟨(hR ρ p).1, (hR ρ p).2.1⟩⟩
  | e :: l, env, fx, k, h, hR => by
    unfold aasl at h
    rw [efrc_eq] at h
    obtain ⟨env1, fx1, h1, h2⟩ := aas_ok hP h (fun ρ p => ⟨(hR ρ p).1, (hR ρ p).2.1, (hR ρ p).2.2 e List.mem_cons_self⟩)
    exact aasl_ok hP l env1 fx1 k h1 (fun ρ p => ⟨(h2 ρ p).1, (h2 ρ p).2, fun x hx => (hR ρ p).2.2 x (List.mem_cons_of_mem _ hx)⟩)
theorem aivl_ok {ρ : Nat → Int} : ∀ (σ : List ae) (l : List (Int × Int)), (∀ (s : Nat) (i : Int × Int), s < σ.length → agt l s = some i → i.1 ≤ ev ρ (asgt σ s) ∧ ev ρ (asgt σ s) ≤ i.2) → ∀ e ∈ aivl σ l, ev ρ e ≤ 0
  | [], _, _, e, he => absurd he List.not_mem_nil
  | _ :: _, [], _, e, he => absurd he List.not_mem_nil
  | x :: σ, i :: l, h, e, he => by
    have h0 := h 0 i (by simp) rfl
    have h0a : i.1 ≤ ev ρ x := h0.1
    have h0b : ev ρ x ≤ i.2 := h0.2
    rcases List.mem_cons.mp he with q | he
    · rw [q, eadc_ev]
      show ev ρ x + -i.2 ≤ 0
      omega
    · rcases List.mem_cons.mp he with q | he
      · rw [q, eadd_ev]
        have : ev ρ ((i.1, []) : ae) = i.1 := ecst_ev ρ i.1
        rw [this]
        omega
      · exact aivl_ok σ l (fun s j hs hj => h (s + 1) j (by simp; omega) hj) e he
theorem amsb_eq (σ : List ae) : ∀ (l : List am) (k : List am → Bool), amsb σ l k = k (l.map (fun m => (m.1, asub σ m.2.1, asub σ m.2.2.1, (m.2.2.2.1, m.2.2.2.2.1, asub σ m.2.2.2.2.2))))
  | [], _ => rfl
  | m :: l, k => by
    unfold amsb
    rw [efrc_eq, efrc_eq, efrc_eq, amsb_eq σ l]
    rfl
theorem agsb_eq (σ : List ae) : ∀ (l : List gho) (k : List gho → Bool), agsb σ l k = k (l.map (fun x => (x.1, x.2.1, x.2.2.1, asub σ x.2.2.2)))
  | [], _ => rfl
  | x :: l, k => by
    unfold agsb
    rw [efrc_eq, agsb_eq σ l]
    rfl
theorem avR_sub {tyt : Lean.RArray (Nat × Nat)} {τ : Nat → Int} {σ : List ae} : ∀ {a : av} {v : cv}, avR tyt (asρ τ σ) a v → avR tyt τ (a.1, a.2.1, asub σ a.2.2) v := by
  intro a v h
  obtain ⟨t, ty, ex⟩ := a
  have e : ev τ (asub σ ex) = ev (asρ τ σ) ex := asub_ev τ σ ex
  match t, h with
  | 0, h => exact ⟨by show v = (0, ev τ (asub σ ex)); rw [e]; exact h.1, by show cI (ev τ (asub σ ex)); rw [e]; exact h.2⟩
  | 1, h => exact h.elim
  | 2, h => exact ⟨by show v = (2, ev τ (asub σ ex)); rw [e]; exact h.1, by show cL (ev τ (asub σ ex)); rw [e]; exact h.2⟩
  | 3, h => exact h.elim
  | 4, h =>
    obtain ⟨k, k1, k2, k3⟩ := h
    exact ⟨k, k1, e.trans k2, k3⟩
  | 5, h => exact h
  | 6, h => exact h
  | 7, h => exact h.elim
  | 8, h => exact h.elim
  | 9, h =>
    show v = (0, csgn (ev τ (asub σ ex)))
    rw [e]; exact h
  | 10, h => exact h
  | _ + 11, h => exact h.elim
section Post
variable {h0 : xheap} {tyt : Lean.RArray (Nat × Nat)} {sv : Nat → Int32} {el : Nat → Nat} {GH : Nat → Nat → Nat → Int → cg → Prop} {HW : aenv → List ae → List am → List gho → List awr → List gho}
def aHW (h0 : xheap) (tyt : Lean.RArray (Nat × Nat)) (GS : gho → (Nat → Int) → cg → Prop) (HW : aenv → List ae → List am → List gho → List awr → List gho) : Prop := ∀ (env : aenv) (fx : List ae) (mem : List am) (gh : List gho) (wr : List awr) (g g' : cg) (ρ : Nat → Int), coR h0 tyt GS env fx mem gh g ρ → (∀ k j : Nat, ¬ awc tyt wr k j → g' k j = g k j) → ghR GS (HW env fx mem gh wr) ρ g'
theorem apst_ok (hHW : aHW h0 tyt (aGSd sv el GH) HW) {wr : List awr} {P : apat} {σ : List ae} {mem : List am} {env : aenv} {fx : List ae} {gh : List gho} {ne : Nat} {k : Option av → List am → aenv → List ae → List gho → Nat → Bool} {ρ ρ' : Nat → Int} {g g' : cg} {rv : Option cv} (hw : awfP P = true) (hgs : ∀ x ∈ P.2.2.2.2.2.2.1, x.1 ≠ 50 ∧ x.1 ≠ 51) (hC : aC ne ρ (coR h0 tyt (aGSd sv el GH) env fx mem gh g)) (hp : σ.length ≤ P.2.2.2.2.1.length) (ha : aag σ.length (asρ ρ σ) ρ') (hpat : patR h0 tyt (aGSd sv el GH) P ρ' g' [] [] rv) (hg : ∀ k j : Nat, ¬ awc tyt wr k j → g' k j = g k j)
    (h : apst HW wr P σ mem env fx gh ne k = true) : ∃ (rva : Option av) (mem' : List am) (env' : aenv) (fx' : List ae) (gh' : List gho) (ne' : Nat) (ρ1 : Nat → Int), k rva mem' env' fx' gh' ne' = true ∧ ne ≤ ne' ∧ aag ne ρ ρ1 ∧ aC ne' ρ1 (coR h0 tyt (aGSd sv el GH) env' fx' mem' gh' g') ∧ aC ne' ρ1 (fun τ => rvR tyt τ rva rv) := by
  unfold apst at h
  obtain ⟨hwf, h⟩ := xcnb h
  obtain ⟨env1, h1, h2⟩ := anew_ok _ _ _ _ h
  rw [adrp_len] at h1
  generalize hn : P.2.2.2.2.1.length - σ.length = n at h1
  let ρ1 : Nat → Int := fun s => if s < ne then ρ s else ρ' (σ.length + (s - ne))
  have hag : aag ne ρ ρ1 := fun s hs => by show (if s < ne then ρ s else _) = _; rw [if_pos hs]
  have key : ∀ τ, aag (ne + n) ρ1 τ → aag P.2.2.2.2.1.length ρ' (asρ τ (σ ++ asy ne n)) := by
    intro τ hτ s hs
    show ev τ (asgt (σ ++ asy ne n) s) = ρ' s
    unfold asgt
    rw [agt_app]
    by_cases hsp : s < σ.length
    · rw [if_pos hsp]
      obtain ⟨e, he⟩ := agt_some hsp
      rw [he]
      dsimp only
      have h3 := ewf_ev (aag.tr (by omega) hag hτ) (List.all_eq_true.mp hwf e (agt_mem he))
      have h4 := ha s hsp
      unfold asρ asgt at h4
      rw [he] at h4
      dsimp only at h4
      rw [h3, h4]
    · rw [if_neg hsp, asy_get n ne (s - σ.length) (by omega)]
      dsimp only
      rw [esym_ev, hτ _ (by omega)]
      show (if ne + (s - σ.length) < ne then _ else ρ' (σ.length + (ne + (s - σ.length) - ne))) = _
      rw [if_neg (by omega)]
      congr 1
      omega
  have hpτ : ∀ τ, aag (ne + n) ρ1 τ → patR h0 tyt (aGSd sv el GH) P (asρ τ (σ ++ asy ne n)) g' [] [] rv := fun τ hτ => patR_ag hw (key τ hτ) hpat
  have hCτ : ∀ τ, aag (ne + n) ρ1 τ → coR h0 tyt (aGSd sv el GH) env fx mem gh g τ := fun τ hτ => hC τ (aag.tr (by omega) hag hτ)
  have hE1 : ∀ τ, aag (ne + n) ρ1 τ → envR env1 τ := by
    intro τ hτ
    refine h2 τ (hCτ τ hτ).1 (fun i x hx => ?_)
    rw [agt_drp] at hx
    have := hpat.2.2.2.2.1 _ x hx
    have hl := agt_lt hx
    rw [hτ _ (by omega)]
    show x.1 ≤ (if ne + i < ne then ρ (ne + i) else ρ' (σ.length + (ne + i - ne))) ∧ (if ne + i < ne then ρ (ne + i) else ρ' (σ.length + (ne + i - ne))) ≤ x.2
    rw [if_neg (by omega), show σ.length + (ne + i - ne) = σ.length + i by omega]
    exact this
  obtain ⟨env2, fx2, h3, h4⟩ := aasl_ok (P := aag (ne + n) ρ1) ⟨ρ1, aag.rf _ _⟩ _ _ _ _ h1 (fun τ hτ => ⟨hE1 τ hτ, (hCτ τ hτ).2.1, fun e he => by
    rcases List.mem_append.mp he with he | he
    · refine aivl_ok σ _ (fun s i hs hi => ?_) e he
      have h5 := (hpτ τ hτ).2.2.2.2.1 s i hi
      have h6 : asρ τ (σ ++ asy ne n) s = ev τ (asgt σ s) := by
        show ev τ (asgt (σ ++ asy ne n) s) = _
        unfold asgt
        rw [agt_app, if_pos hs]
      rw [h6] at h5
      exact h5
    · obtain ⟨f, hf, e2⟩ := List.mem_map.mp he
      rw [← e2, asub_ev]
      exact (hpτ τ hτ).2.2.2.2.2.1 f hf⟩)
  obtain ⟨env3, h5, h6⟩ := aprp_ok (P := aag (ne + n) ρ1) ⟨ρ1, aag.rf _ _⟩ _ _ _ h3 h4
  obtain ⟨r, e1, e2⟩ := akwf_ok env3 wr mem (fun r => amsb (σ ++ asy ne n) P.2.2.2.1 (fun m => agsb (σ ++ asy ne n) P.2.2.2.2.2.2.1 (fun gs =>
      match P.2.2.1 with
      | none => k none (m ++ r) env3 fx2 (gs ++ HW env3 fx2 mem gh wr) (ne + n)
      | some a => efrc (asub (σ ++ asy ne n) a.2.2) (fun e => k (some (a.1, a.2.1, e)) (m ++ r) env3 fx2 (gs ++ HW env3 fx2 mem gh wr) (ne + n)))))
  rw [e1, amsb_eq, agsb_eq] at h5
  have hco : aC (ne + n) ρ1 (coR h0 tyt (aGSd sv el GH) env3 fx2 (P.2.2.2.1.map (fun m => (m.1, asub (σ ++ asy ne n) m.2.1, asub (σ ++ asy ne n) m.2.2.1, (m.2.2.2.1, m.2.2.2.2.1, asub (σ ++ asy ne n) m.2.2.2.2.2))) ++ r) (P.2.2.2.2.2.2.1.map (fun x => (x.1, x.2.1, x.2.2.1, asub (σ ++ asy ne n) x.2.2.2)) ++ HW env3 fx2 mem gh wr) g') := by
    intro τ hτ
    have hc := hCτ τ hτ
    have hE := h6 τ hτ
    refine ⟨hE, (h4 τ hτ).2, fun m hm => ?_, fun x hx => ?_⟩
    · rcases List.mem_append.mp hm with hm | hm
      · obtain ⟨m0, q1, q2⟩ := List.mem_map.mp hm
        rw [← q2]
        obtain ⟨kk, j, v, a1, a2, a3, a4, a5⟩ := (hpτ τ hτ).2.2.2.1 m0 q1
        exact ⟨kk, j, v, (asub_ev _ _ _).trans a1, (asub_ev _ _ _).trans a2, a3, a4, avR_sub a5⟩
      · exact akw_keep hE hg (hc.2.2.1 m (e2 m hm).1) (e2 m hm).2
    · rcases List.mem_append.mp hx with hx | hx
      · obtain ⟨x0, q1, q2⟩ := List.mem_map.mp hx
        rw [← q2]
        have hx0 := hgs x0 q1
        refine aGSd_sub (x := (x0.1, x0.2.1, x0.2.2.1, asub (σ ++ asy ne n) x0.2.2.2)) (ρ := asρ τ (σ ++ asy ne n)) (e := x0.2.2.2) (fun hk => ?_) (asub_ev _ _ _).symm ((hpτ τ hτ).2.2.2.2.2.2 x0 q1)
        rcases hk with q | q
        · exact absurd q hx0.1
        · exact absurd q hx0.2
      · exact hHW env3 fx2 mem gh wr g g' τ ⟨hE, (h4 τ hτ).2, hc.2.2.1, hc.2.2.2⟩ hg x hx
  have hrv : ∀ τ, aag (ne + n) ρ1 τ → rvR tyt (asρ τ (σ ++ asy ne n)) P.2.2.1 rv := fun τ hτ => (hpτ τ hτ).2.2.1
  cases hr : P.2.2.1 with
  | none =>
    rw [hr] at h5 hrv
    refine ⟨_, _, _, _, _, _, ρ1, h5, by omega, hag, hco, fun τ hτ => ?_⟩
    have := hrv τ hτ
    cases rv with
    | none => trivial
    | some v => exact this.elim
  | some a =>
    rw [hr] at h5 hrv
    dsimp only at h5
    rw [efrc_eq] at h5
    refine ⟨_, _, _, _, _, _, ρ1, h5, by omega, hag, hco, fun τ hτ => ?_⟩
    have := hrv τ hτ
    cases rv with
    | none => exact this.elim
    | some v => exact avR_sub this
end Post
end
section
/-! What a call adds, by the run itself: one ghost (kind 72) of all that both programs have in common, kept over both one's call and the other's -/
def xB : Int := 1099511627776
/-- the row isn't among what is written; the cell isn't -/
def xhc : Option Nat → Nat → Bool
  | none, _ => true
  | some c, k => Nat.beq k c
noncomputable def xtq (tyt : Lean.RArray (Nat × Nat)) (k t : Nat) : Bool := match xg tyt k with
  | none => false
  | some u => Nat.beq u t
theorem xhc_ok {w : Option Nat} {k : Nat} (h : ∀ c, w = some c → k = c) : xhc w k = true := by
  cases w with
  | none => rfl
  | some c => exact xnb1 (h c rfl)
theorem xtq_ok {tyt : Lean.RArray (Nat × Nat)} {k t : Nat} (h : xg tyt k = some t) : xtq tyt k t = true := by
  unfold xtq
  rw [h]
  exact xnb1 rfl
noncomputable def xnum (env : aenv) (mem : List am) (t k : Nat) (i : ae) : Option ae := match amg env t ((k : Int), []) i mem with
  | none => none
  | some v => cond (Nat.beq v.1 0) (some v.2.2) none
noncomputable def xrw (tyt : Lean.RArray (Nat × Nat)) (wr : List awr) (k : Nat) : Bool := wr.all (fun w => !(cond (xhc w.2.1 k) (xtq tyt k w.1) false))
noncomputable def xcw (tyt : Lean.RArray (Nat × Nat)) (wr : List awr) (k : Nat) (j : Int) : Bool := wr.all (fun w => !(cond (xhc w.2.1 k) (cond (xtq tyt k w.1) (cond (zle w.2.2.1 j) (cond (zle 2147483648 w.2.2.2) true (zle j w.2.2.2)) false) false) false))
theorem xrw_ok {tyt : Lean.RArray (Nat × Nat)} {wr : List awr} {k : Nat} (h : xrw tyt wr k = true) (j : Nat) : ¬ awc tyt wr k j := by
  intro ⟨w, hw, h1, h2, h3, h4⟩
  have h := List.all_eq_true.mp h w hw
  rw [xhc_ok h2, xtq_ok h1] at h
  cases h
theorem xcw_ok {tyt : Lean.RArray (Nat × Nat)} {wr : List awr} {k j : Nat} (h : xcw tyt wr k (j : Int) = true) : ¬ awc tyt wr k j := by
  intro ⟨w, hw, h1, h2, h3, h4⟩
  have h := List.all_eq_true.mp h w hw
  rw [xhc_ok h2, xtq_ok h1, zle_iff.mpr h3] at h
  have h5 : cond (zle 2147483648 w.2.2.2) true (zle (j : Int) w.2.2.2) = true := by
    rcases h4 with h4 | h4
    · rw [zle_iff.mpr h4]; rfl
    · rw [zle_iff.mpr h4]
      cases zle 2147483648 w.2.2.2 <;> rfl
  simp only [cond_true] at h
  rw [h5] at h
  cases h
noncomputable def xfed (tyt : Lean.RArray (Nat × Nat)) (env : aenv) (mem : List am) : Option ae := match xg tyt 0 with
  | none => none
  | some t => xnum env mem t 0 (5, [])
noncomputable def xtap (tyt : Lean.RArray (Nat × Nat)) (env : aenv) (mem : List am) : Option ae := match xg tyt 253 with
  | none => none
  | some t => xnum env mem t 253 (10, [])
/-- before the class reads or writes its tape -/
noncomputable def xprq (tyt : Lean.RArray (Nat × Nat)) (wr : List awr) (env : aenv) (fx : List ae) (mem : List am) (gh : List gho) : Bool := match xfed tyt env mem with
  | none => false
  | some a => match xtap tyt env mem with
    | none => false
    | some b => cond (eeq env a b) (cond (elef env fx 2 (eadc a (-900))) (cond (elef env fx 2 (escl a (-1))) (cond (xcw tyt wr 253 10) (cond (xrw tyt wr 259) (gh.any (fun x => cond (Nat.beq x.1 70) (elef env fx 2 (eadd a x.2.2.2 (-1))) false)) false) false) false) false) false
/-- e by s, where s divides all -/
def xdq (s : Int) (e : ae) : ae := (Int.ediv e.1 s, e.2.map (fun q => (q.1, Int.ediv q.2 s)))
theorem xdql_ev {s : Int} (ρ : Nat → Int) : ∀ {l : List (Nat × Int)}, zdvd s l = true → s * evl ρ (l.map (fun q => (q.1, Int.ediv q.2 s))) = evl ρ l
  | [], _ => Int.mul_zero s
  | q :: l, h => by
    obtain ⟨h1, h2⟩ := xcnb (show cond (zeq (Int.emod q.2 s) 0) (zdvd s l) false = true from h)
    have h3 : s ∣ q.2 := Int.dvd_of_emod_eq_zero (zeq_iff.mp h1)
    show s * (Int.ediv q.2 s * ρ q.1 + evl ρ (l.map (fun q => (q.1, Int.ediv q.2 s)))) = q.2 * ρ q.1 + evl ρ l
    rw [Int.mul_add, xdql_ev ρ h2, ← Int.mul_assoc]
    have e : s * Int.ediv q.2 s = q.2 := Int.mul_ediv_cancel' h3
    rw [e]
theorem xdq_ev {s : Int} {e : ae} (ρ : Nat → Int) (h1 : zeq (Int.emod e.1 s) 0 = true) (h2 : zdvd s e.2 = true) : s * ev ρ (xdq s e) = ev ρ e := by
  have h3 : s ∣ e.1 := Int.dvd_of_emod_eq_zero (zeq_iff.mp h1)
  show s * (Int.ediv e.1 s + evl ρ (e.2.map (fun q => (q.1, Int.ediv q.2 s)))) = e.1 + evl ρ e.2
  rw [Int.mul_add, xdql_ev ρ h2]
  have e : s * Int.ediv e.1 s = e.1 := Int.mul_ediv_cancel' h3
  rw [e]
/-- so many numbers in one -/
def xpk : List av → Option ae
  | [] => some (0, [])
  | a :: l => cond (Nat.beq a.1 0) (match xpk l with
    | none => none
    | some e => some (eadd a.2.2 e xB)) none
/-- this object -/
noncomputable def xob (env : aenv) (a : av) (k : Nat) : Bool := cond (Nat.beq a.1 4) (eeq env a.2.2 ((k : Int), [])) false
noncomputable def xfe (tyt : Lean.RArray (Nat × Nat)) (args : List av) (wr : List awr) (env : aenv) (fx : List ae) (mem : List am) (gh : List gho) : List gho := match args with
  | [t, a1, a2, a3, a4, a5] => cond (xob env t 0) (cond (xprq tyt wr env fx mem gh) (match xpk [a1, a2, a3, a4, a5] with
    | none => []
    | some e => [(75, 0, 0, e)]) []) []
  | _ => []
noncomputable def xfm (tyt : Lean.RArray (Nat × Nat)) (args : List av) (env0 : aenv) (gh0 : List gho) (env : aenv) (mem : List am) : List gho := match args with
  | [t, a1, a2, a3, a4, a5] => cond (xob env0 t 253) (match xpk [a1, a2, a3, a4, a5] with
    | none => []
    | some e => cond (gh0.any (fun x => cond (Nat.beq x.1 75) (eeq env0 x.2.2.2 e) false)) (match xtap tyt env mem with
      | none => []
      | some v => [(70, 0, 0, v)]) []) []
  | _ => []
/-- methods behind which the ghost may come back by copies; methods of the class whose partner in the reference has the next number, and how many numbers they are given -/
def xKR : List Nat := [227, 233]
def xPR : List (Nat × Nat) := [(273, 1), (275, 1), (367, 0), (369, 0), (313, 1), (303, 4), (305, 3), (307, 1), (309, 2), (311, 2), (361, 1), (295, 4)]
def xar (z : Nat) : List (Nat × Nat) → Option Nat
  | [] => none
  | q :: l => cond (Nat.beq q.1 z) (some q.2) (xar z l)
def xzin (z : Nat) (l : List Nat) : Bool := l.any (fun y => Nat.beq y z)
theorem xzin_ok {z : Nat} {l : List Nat} (h : xzin z l = true) : z ∈ l := by
  obtain ⟨y, hy, e⟩ := List.any_eq_true.mp h
  rw [← xeqb e]
  exact hy
noncomputable def xrl (gh : List gho) (a : Nat) : Bool := gh.any (fun x => cond (Nat.beq x.1 72) (Nat.beq x.2.1 a) false)
theorem xrl_ok {gh : List gho} {a : Nat} (h : xrl gh a = true) : ∃ x ∈ gh, x.1 = 72 ∧ x.2.1 = a := by
  obtain ⟨x, hx, e⟩ := List.any_eq_true.mp h
  obtain ⟨e1, e2⟩ := xcnb e
  exact ⟨x, hx, xeqb e1, xeqb e2⟩
/-- by a copy of the reference's court -/
noncomputable def jcp (env : aenv) (fx : List ae) (gh : List gho) (a b : Nat) : Bool := gh.any (fun w => cond (Nat.beq w.1 2) (cond (Nat.beq w.2.1 a) (cond (Nat.beq w.2.2.1 b) (elef env fx 2 (eadc (escl w.2.2.2 (-1)) 260)) false) false) false)
noncomputable def jrl (env : aenv) (fx : List ae) (gh : List gho) (a : Nat) : Bool := gh.any (fun y => cond (Nat.beq y.1 72) (cond (Nat.beq y.2.1 a) true (cond (Nat.ble 9000 a) false (cond (Nat.ble 9000 y.2.1) false (jcp env fx gh a y.2.1)))) false)
noncomputable def xkr (env : aenv) (fx : List ae) (gh : List gho) : List gho := cond (jrl env fx gh 0) [(72, 0, 0, (0, []))] [] ++ cond (jrl env fx gh 4464) [(72, 4464, 0, (0, []))] []
/-- a frame doesn't touch it -/
noncomputable def jwq (tyt : Lean.RArray (Nat × Nat)) (wr : List awr) (q : Nat × Int × Int) : Bool := wr.all (fun w => !(cond (xhc w.2.1 q.1) (cond (xtq tyt q.1 w.1) (cond (zle w.2.2.1 q.2.2) (cond (zle 2147483648 w.2.2.2) true (zle q.2.1 w.2.2.2)) false) false) false))
theorem jwq_ok {tyt : Lean.RArray (Nat × Nat)} {wr : List awr} {q : Nat × Int × Int} (h : jwq tyt wr q = true) {j : Nat} (h1 : q.2.1 ≤ (j : Int)) (h2 : (j : Int) ≤ q.2.2) : ¬ awc tyt wr q.1 j := by
  intro ⟨w, hw, a1, a2, a3, a4⟩
  have h := List.all_eq_true.mp h w hw
  rw [xhc_ok a2, xtq_ok a1, zle_iff.mpr (show w.2.2.1 ≤ q.2.2 by omega)] at h
  have h5 : cond (zle 2147483648 w.2.2.2) true (zle q.2.1 w.2.2.2) = true := by
    rcases a4 with a4 | a4
    · rw [zle_iff.mpr a4]; rfl
    · rw [zle_iff.mpr (show q.2.1 ≤ w.2.2.2 by omega)]
      cases zle 2147483648 w.2.2.2 <;> rfl
  simp only [cond_true] at h
  rw [h5] at h
  cases h
/-- what a call leaves as it was, beside: of a court, by the class's number of the method -/
def xND (B : Nat) : List (Nat × Int × Int) := [(B, 0, 9), (B + 1, 0, 4), (B + 2, 0, 4)] ++ ((List.range 6).flatMap (fun i => [(B + 14 + 2 * i, (0 : Int), (5 : Int)), (B + 15 + 2 * i, (0 : Int), (7 : Int))]) ++ (List.range 16).map (fun i => (B + 26 + i, (0 : Int), (7 : Int))))
def xCD (B : Nat) : List (Nat × Int × Int) := xND B ++ ((B + 5, (0 : Int), (2 : Int)) :: (List.range 8).map (fun i => (B + 6 + i, (0 : Int), (59 : Int))))
def xzdf : Nat → List (Nat × Int × Int)
  | 273 => [(0, 9, 9), (89, 0, 24)] ++ (xCD 127 ++ (xCD 169 ++ xCD 211))
  | 275 => [(0, 9, 9), (89, 0, 24)] ++ (xND 3 ++ (xCD 127 ++ (xCD 169 ++ xCD 211)))
  | _ => []
def xzmf : Nat → List (Nat × Int × Int)
  | 273 => [(253, 39, 39), (254, 744, 2975), (255, 12, 47)]
  | 275 => [(253, 39, 39), (254, 0, 6), (254, 8, 259), (254, 744, 2975), (255, 0, 47)]
  | _ => []
/-- what reads the tape -/
def xtr (z : Nat) : Bool := cond (Nat.beq z 273) true (Nat.beq z 275)
/-- what the FAULT hangs on -/
def xrf (_z : Nat) : Bool := false
/-- the class's call doesn't touch the reference, nor the reference's the class -/
noncomputable def xw1 (tyt : Lean.RArray (Nat × Nat)) (wr : List awr) : Bool := wr.all (fun w => match w.2.1 with
  | some c => Nat.blt c 253
  | none => (List.range 17).all (fun k => !xtq tyt (253 + k) w.1))
noncomputable def xw2 (wr : List awr) : Bool := wr.all (fun w => match w.2.1 with
  | some c => Nat.ble 253 c
  | none => false)
theorem xw1_ok {tyt : Lean.RArray (Nat × Nat)} {wr : List awr} (h : xw1 tyt wr = true) {k j : Nat} (h1 : 253 ≤ k) (h2 : k < 270) : ¬ awc tyt wr k j := by
  intro ⟨w, hw, a1, a2, _, _⟩
  have h := List.all_eq_true.mp h w hw
  split at h
  · rename_i c hc
    have h3 := a2 c hc
    have h4 := xltb h
    omega
  · have h3 := List.all_eq_true.mp h (k - 253) (List.mem_range.mpr (by omega))
    rw [show 253 + (k - 253) = k by omega, xtq_ok a1] at h3
    cases h3
theorem xw2_ok {tyt : Lean.RArray (Nat × Nat)} {wr : List awr} (h : xw2 wr = true) {k j : Nat} (h1 : k < 253) : ¬ awc tyt wr k j := by
  intro ⟨w, hw, a1, a2, _, _⟩
  have h := List.all_eq_true.mp h w hw
  split at h
  · rename_i c hc
    have h3 := a2 c hc
    have h4 := xleb h
    omega
  · cases h
noncomputable def xzcl (tyt : Lean.RArray (Nat × Nat)) (wr : List awr) (z ar : Nat) (args : List av) (env : aenv) (fx : List ae) (mem : List am) (gh : List gho) (rv : Option av) : List gho := match args with
  | [] => []
  | t :: l => match rv with
    | none => []
    | some r => cond (cond (xob env t 0) (Nat.beq l.length ar) false) (cond (cond (cond (xrl gh 0) (cond (xrf z) (xrl gh 9999) true) false) (cond (xw1 tyt wr) (cond ((xzdf z).all (fun q => jwq tyt wr q)) (cond (xtr z) (xprq tyt wr env fx mem gh) true) false) false) false) (match xpk (l ++ [r]) with
      | none => []
      | some e => [(74, z, 0, e)]) []) []
def xbn : List av → Int
  | [] => 1
  | _ :: l => Int.mul xB (xbn l)
noncomputable def xan (y : Nat) (A : ae) (n : Int) (r : ae) : List gho → Option (List ae)
  | [] => none
  | x :: l => cond (cond (Nat.beq x.1 74) (cond (Nat.beq x.2.1 y) (cond (zeq (Int.emod (eadd x.2.2.2 A (-1)).1 n) 0) (zdvd n (eadd x.2.2.2 A (-1)).2) false) false) false) (some [eadd (xdq n (eadd x.2.2.2 A (-1))) r (-1), eadd r (xdq n (eadd x.2.2.2 A (-1))) (-1)]) (xan y A n r l)
noncomputable def xzml (tyt : Lean.RArray (Nat × Nat)) (wr : List awr) (y ar : Nat) (args : List av) (env : aenv) (gh : List gho) (rv : Option av) (env1 : aenv) (fx1 : List ae) : List ae × List gho := match args with
  | [] => ([], [])
  | t :: l => match rv with
    | none => ([], [])
    | some r => cond (cond (xob env t 253) (Nat.beq l.length ar) false) (cond (cond (Nat.beq r.1 0) (cond (xw2 wr) ((xzmf y).all (fun q => jwq tyt wr q)) false) false) (match xpk l with
      | none => ([], [])
      | some A => match xan y A (xbn l) r.2.2 gh with
        | none => ([], [])
        | some fs => (fs, cond (cond (xtr y) (elef env1 fx1 2 (escl r.2.2 (-1))) true) [(72, 0, 0, (0, []))] [] ++ cond (xrf y) [(72, 9999, 0, (0, []))] [])) ([], [])) ([], [])
noncomputable def zXS (tyt : Lean.RArray (Nat × Nat)) (wr : List awr) (z : Nat) (args : List av) (env0 : aenv) (fx0 : List ae) (mem0 : List am) (gh0 : List gho) (rv : Option av) (env : aenv) (fx : List ae) (mem : List am) (gh : List gho) : List ae × List gho :=
  cond (xzin z xKR) ([], xkr env fx gh) (cond (Nat.beq z 271) ([], xfe tyt args wr env0 fx0 mem0 gh0) (cond (Nat.beq z 272) ([], xfm tyt args env0 gh0 env mem) (match xar z xPR with
    | some k => ([], xzcl tyt wr z k args env0 fx0 mem0 gh0 rv)
    | none => match xar (Nat.pred z) xPR with
      | some k => xzml tyt wr (Nat.pred z) k args env0 gh0 rv env fx
      | none => ([], []))))
end
section
/-! A method's instances: each is checked over those before it -/
/-- method, depth, start, cuts, ends, writes -/
abbrev ains : Type := Nat × Nat × apat × List (Nat × List apat) × List apat × List awr
noncomputable def aini : List (Int × Int) → Nat → aenv → (aenv → Bool) → Bool
  | [], _, env, k => k env
  | i :: l, s, env, k => xsK env s (some i) (fun env' => xfrc (s + 1) (fun s' => aini l s' env' k))
theorem aini_ok : ∀ (l : List (Int × Int)) (s : Nat) (env : aenv) (k : aenv → Bool), ∃ env', aini l s env k = k env' ∧ ∀ (t : Nat) (v : Int × Int), xg env' t = some (some v) → xg env t = some (some v) ∨ ∃ i, t = s + i ∧ agt l i = some v
  | [], s, env, k => ⟨env, rfl, fun _ _ h => Or.inl h⟩
  | i :: l, s, env, k => by
    unfold aini
    rw [xsK_eq, xfrc_eq]
    obtain ⟨env', h1, h2⟩ := aini_ok l (s + 1) (xw env s (some i)) k
    refine ⟨env', h1, fun t v ht => ?_⟩
    rcases h2 t v ht with h | ⟨j, h3, h4⟩
    · by_cases e : t = s
      · subst e
        cases hg : xg env t with
        | none => rw [xw_none env t (some i) hg] at h; cases h
        | some w =>
          rw [xg_self env t (some i) w hg] at h
          have : i = v := Option.some.inj (Option.some.inj h)
          exact Or.inr ⟨0, rfl, by rw [← this]; rfl⟩
      · rw [xg_other env s t _ e] at h
        exact Or.inl h
    · exact Or.inr ⟨j + 1, by omega, h4⟩
theorem xmk_val {α : Type} (v : α) : ∀ (f lo n k : Nat) (w : α), xg (xmk v f lo n) k = some w → w = v
  | 0, lo, n, k, w, h => by
    have h : cond (Nat.beq lo k) (some v) none = some w := h
    obtain ⟨-, h⟩ := xcnd h
    exact (Option.some.inj h).symm
  | f + 1, lo, n, k, w, h => by
    have h : xg (cond (Nat.ble n 1) (.leaf (lo, v)) (.branch (lo + n / 2) (xmk v f lo (n / 2)) (xmk v f (lo + n / 2) (n - n / 2)))) k = some w := h
    cases hb : Nat.ble n 1 with
    | true =>
      rw [hb] at h
      have h : cond (Nat.beq lo k) (some v) none = some w := h
      obtain ⟨-, h⟩ := xcnd h
      exact (Option.some.inj h).symm
    | false =>
      rw [hb] at h
      simp only [cond_false] at h
      rw [xg_branch] at h
      cases hc : Nat.ble (lo + n / 2) k with
      | true => rw [hc] at h; exact xmk_val v f _ _ k w h
      | false => rw [hc] at h; exact xmk_val v f _ _ k w h
def acts : List (Nat × List apat) → Nat → Option (List apat)
  | [], _ => none
  | q :: l, pc => cond (Nat.beq q.1 pc) (some q.2) (acts l pc)
theorem acts_mem : ∀ {l : List (Nat × List apat)} {pc : Nat} {L : List apat}, acts l pc = some L → (pc, L) ∈ l
  | [], _, _, h => by cases h
  | q :: l, pc, L, h => by
    have h : cond (Nat.beq q.1 pc) (some q.2) (acts l pc) = some L := h
    cases hb : Nat.beq q.1 pc with
    | true =>
      rw [hb] at h
      have e1 := xeqb hb
      have e2 : q.2 = L := Option.some.inj h
      have : q = (pc, L) := by rw [← e1, ← e2]
      rw [this]; exact List.mem_cons_self
    | false => rw [hb] at h; exact List.mem_cons_of_mem _ (acts_mem h)
/-- what a run promises, and that it is this run -/
theorem cT.run {G : xG} {h0 : xheap} {n0 y d pc : Nat} {ls : List (Nat × cv)} {st : List cv} {g : cg} {cn sn : Nat} {Q Q' : cg → Option cv → Prop} (h : cT G h0 n0 y d pc ls st g cn sn Q) (hq : ∀ g' r, Q g' r → (∃ f lf, dag lf ls ∧ G.2 h0 f y pc lf st g = some (g', r)) → Q' g' r) : cT G h0 n0 y d pc ls st g cn sn Q' := by
  intro lf hl
  obtain ⟨o, q, ⟨f, e⟩, u⟩ := h lf hl
  exact ⟨o, hq _ _ q ⟨f, lf, hl, e⟩, ⟨f, e⟩, u⟩
noncomputable def aXSk (tyt : Lean.RArray (Nat × Nat)) (z : Nat) (args : List av) (wr : List awr) (mem0 : List am) (env0 : aenv) (fx0 : List ae) (gh0 : List gho) (k : Option av → List am → aenv → List ae → List gho → Nat → Bool) (rv : Option av) (mem : List am) (env : aenv) (fx : List ae) (gh : List gho) (ne : Nat) : Bool :=
  k rv mem env ((zXS tyt wr z args env0 fx0 mem0 gh0 rv env fx mem gh).1 ++ fx) ((zXS tyt wr z args env0 fx0 mem0 gh0 rv env fx mem gh).2 ++ gh) ne
def aXS (G : xG) (h0 : xheap) (tyt : Lean.RArray (Nat × Nat)) (typs : Lean.RArray (Nat × aty)) (GS : gho → (Nat → Int) → cg → Prop) : Prop :=
  ∀ (z : Nat) (args : List av) (wr : List awr) (mem0 : List am) (env0 : aenv) (fx0 : List ae) (gh0 : List gho) (rva : Option av) (mem : List am) (env : aenv) (fx : List ae) (gh : List gho) (g g' : cg) (ρ : Nat → Int) (argc : List cv) (rv : Option cv) (f : Nat) (lf : dlf), coR h0 tyt GS env0 fx0 mem0 gh0 g ρ → stR tyt ρ args argc → aInv tyt typs g → aInv tyt typs g' → (∀ k j : Nat, ¬ awc tyt wr k j → g' k j = g k j) → dag lf (carg 0 argc) → G.2 h0 f z 0 lf [] g = some (g', rv) → coR h0 tyt GS env fx mem gh g' ρ → rvR tyt ρ rva rv → fxR (zXS tyt wr z args env0 fx0 mem0 gh0 rva env fx mem gh).1 ρ ∧ ghR GS (zXS tyt wr z args env0 fx0 mem0 gh0 rva env fx mem gh).2 ρ g'
theorem aXSk_ok {G : xG} {h0 : xheap} {tyt : Lean.RArray (Nat × Nat)} {typs : Lean.RArray (Nat × aty)} {GS : gho → (Nat → Int) → cg → Prop} (hX : aXS G h0 tyt typs GS) {z : Nat} {args : List av} {wr : List awr} {mem0 : List am} {env0 : aenv} {fx0 : List ae} {gh0 : List gho} {k : Option av → List am → aenv → List ae → List gho → Nat → Bool} {rva : Option av} {mem : List am} {env : aenv} {fx : List ae} {gh : List gho} {ne : Nat} {ρ : Nat → Int} {g g' : cg} {argc : List cv} {rv : Option cv} (h : aXSk tyt z args wr mem0 env0 fx0 gh0 k rva mem env fx gh ne = true) (hC0 : aC ne ρ (coR h0 tyt GS env0 fx0 mem0 gh0 g)) (hA : aC ne ρ (fun τ => stR tyt τ args argc)) (hI : aInv tyt typs g) (hI' : aInv tyt typs g') (hfr : ∀ k j : Nat, ¬ awc tyt wr k j → g' k j = g k j) (hrun : ∃ f lf, dag lf (carg 0 argc) ∧ G.2 h0 f z 0 lf [] g = some (g', rv)) (hC : aC ne ρ (coR h0 tyt GS env fx mem gh g')) (hr : aC ne ρ (fun τ => rvR tyt τ rva rv)) : ∃ fx' gh', k rva mem env fx' gh' ne = true ∧ aC ne ρ (coR h0 tyt GS env fx' mem gh' g') := by
  obtain ⟨f, lf, hl, he⟩ := hrun
  refine ⟨_, _, h, fun τ hτ => ?_⟩
  obtain ⟨h1, h2⟩ := hX z args wr mem0 env0 fx0 gh0 rva mem env fx gh g g' τ argc rv f lf (hC0 τ hτ) (hA τ hτ) hI hI' hfr hl he (hC τ hτ) (hr τ hτ)
  have hc := hC τ hτ
  exact ⟨hc.1, fun e h => (List.mem_append.mp h).elim (h1 e) (hc.2.1 e), hc.2.2.1, fun x h => (List.mem_append.mp h).elim (h2 x) (hc.2.2.2 x)⟩
section Ins
variable (h0 : xheap) (tyt : Lean.RArray (Nat × Nat)) (typs : Lean.RArray (Nat × aty)) (HK : aenv → List ae → List am → List gho → Nat → ae → ae → Int × Int → Int × Int) (HS : aenv → List ae → List am → List gho → Nat → ae → ae → av → List gho)
variable (HA : aenv → List ae → List am → List gho → Nat → ae → Nat → ae → ae → ae → ae → List gho) (HH : aenv → List ae → List am → List gho → gho → Bool) (HW : aenv → List ae → List am → List gho → List awr → List gho)
variable (cd : xcd) (mi : xmi) (el : Nat → Nat) (eb : Nat → List Nat) (inl : Nat → Bool) (fl : Nat → Nat → Nat) (spl : Nat → Nat → Option (Nat × Nat × Nat × Nat × List Int)) (cand : Nat → List Nat) (INS : Lean.RArray (Nat × ains))
noncomputable def aSMi (i : Nat) (wr : List awr) (z dd : Nat) (args : List av) (mem : List am) (env : aenv) (fx : List ae) (gh : List gho) (ne : Nat) (k : Option av → List am → aenv → List ae → List gho → Nat → Bool) : Bool :=
  (cand z).any (fun c => cond (Nat.blt c i) (match xg INS c with
    | none => false
    | some J => cond (Nat.beq J.1 z && Nat.ble J.2.1 dd && awsb J.2.2.2.2.2 wr) (aent h0 tyt typs HK HH 0 J.2.2.1 none (aarg 0 args) [] none mem env fx gh ne (fun σ mem env ne => cond (Nat.beq σ.length J.2.2.1.2.2.2.2.1.length) (J.2.2.2.2.1.all (fun P => apst HW J.2.2.2.2.2 P σ mem env fx gh ne (aXSk tyt z args J.2.2.2.2.2 mem env fx gh k))) false)) false) false)
noncomputable def aRTi (I : ains) (rv : Option av) (mem : List am) (env : aenv) (fx : List ae) (gh : List gho) (ne : Nat) : Bool :=
  I.2.2.2.2.1.any (fun P => aent h0 tyt typs HK HH I.2.2.1.2.2.2.2.1.length P none [] [] rv mem env fx gh ne (fun _ _ _ _ => true))
noncomputable def aCTi (I : ains) (pc : Nat) : Bool := match acts I.2.2.2.1 pc with
  | none => false
  | some _ => true
noncomputable def aCUi (I : ains) (M : Option ae) (dd pc : Nat) (ls : List (Nat × av)) (st : List av) (mem : List am) (env : aenv) (fx : List ae) (gh : List gho) (ne : Nat) : Bool :=
  cond (Nat.ble I.2.1 dd) (match acts I.2.2.2.1 pc with
    | none => false
    | some L => L.any (fun P => aent h0 tyt typs HK HH I.2.2.1.2.2.2.2.1.length P M ls st none mem env fx gh ne (fun _ _ _ _ => true))) false
noncomputable def arnI (f i : Nat) (I : ains) (P : apat) (M : Option ae) (pc : Nat) : Bool :=
  aini P.2.2.2.2.1 0 (xmk none 9 0 512) (fun env => xfrc P.2.2.2.2.1.length (fun np => aone h0 tyt typs HK HS (aWK I.2.2.2.2.2) (aWA I.2.2.2.2.2) HA cd mi el eb inl (aSMi h0 tyt typs HK HH HW cand INS i I.2.2.2.2.2) (aRTi h0 tyt typs HK HH I) fl spl
    (arun h0 tyt typs HK HS (aWK I.2.2.2.2.2) (aWA I.2.2.2.2.2) HA cd mi el eb inl (aSMi h0 tyt typs HK HH HW cand INS i I.2.2.2.2.2) (aRTi h0 tyt typs HK HH I) fl spl I.1 (aCTi I) (aCUi h0 tyt typs HK HH I M) f) I.1 I.2.1 pc P.1 P.2.1 [] P.2.2.2.1 env P.2.2.2.2.2.1 P.2.2.2.2.2.2.1 np))
/-- the forms -/
def awfI (I : ains) : Bool :=
  cond (awfP I.2.2.1) (cond (I.2.2.2.2.1.all (fun P => cond (awfP P) (cond (Nat.ble I.2.2.1.2.2.2.2.1.length P.2.2.2.2.1.length) (P.2.2.2.2.2.2.1.all (fun x => cond (Nat.beq x.1 50) false (!(Nat.beq x.1 51)))) false) false))
    (I.2.2.2.1.all (fun q => q.2.all (fun P => cond (awfP P) (cond (Nat.ble I.2.2.1.2.2.2.2.1.length P.2.2.2.2.1.length) (ewf P.2.2.2.2.1.length P.2.2.2.2.2.2.2.2) false) false))) false) false
noncomputable def achI (f i : Nat) : Bool := match xg INS i with
  | none => false
  | some I => cond (awfI I) (cond (arnI h0 tyt typs HK HS HA HH HW cd mi el eb inl fl spl cand INS f i I I.2.2.1 none 0) (I.2.2.2.1.all (fun q => q.2.all (fun P => arnI h0 tyt typs HK HS HA HH HW cd mi el eb inl fl spl cand INS f i I P (some P.2.2.2.2.2.2.2) q.1))) false) false
end Ins
section InsS
variable {sv : Nat → Int32} {cd : xcd} {mi : xmi} {df : xdf} {el ec : Nat → Nat} {eb : Nat → List Nat} {G : xG} {h0 : xheap} {n0 : Nat} {cn0 sn0 : Nat → Nat}
variable {tyt : Lean.RArray (Nat × Nat)} {typs : Lean.RArray (Nat × aty)} {GH : Nat → Nat → Nat → Int → cg → Prop}
variable {HK : aenv → List ae → List am → List gho → Nat → ae → ae → Int × Int → Int × Int} {HS : aenv → List ae → List am → List gho → Nat → ae → ae → av → List gho}
variable {HA : aenv → List ae → List am → List gho → Nat → ae → Nat → ae → ae → ae → ae → List gho} {HH : aenv → List ae → List am → List gho → gho → Bool} {HW : aenv → List ae → List am → List gho → List awr → List gho}
variable {inl : Nat → Bool} {fl : Nat → Nat → Nat} {spl : Nat → Nat → Option (Nat × Nat × Nat × Nat × List Int)} {cand : Nat → List Nat} {INS : Lean.RArray (Nat × ains)}
/-- what an instance says -/
def aQi (h0 : xheap) (tyt : Lean.RArray (Nat × Nat)) (typs : Lean.RArray (Nat × aty)) (GS : gho → (Nat → Int) → cg → Prop) (I : ains) (ρ : Nat → Int) (g0 g' : cg) (rv : Option cv) : Prop := aInv tyt typs g' ∧ (∀ k j : Nat, ¬ awc tyt I.2.2.2.2.2 k j → g' k j = g0 k j) ∧ ∃ P ∈ I.2.2.2.2.1, ∃ ρ' : Nat → Int, aag I.2.2.1.2.2.2.2.1.length ρ ρ' ∧ patR h0 tyt GS P ρ' g' [] [] rv
def aInsOK (G : xG) (h0 : xheap) (n0 : Nat) (cn0 sn0 : Nat → Nat) (tyt : Lean.RArray (Nat × Nat)) (typs : Lean.RArray (Nat × aty)) (GS : gho → (Nat → Int) → cg → Prop) (I : ains) : Prop :=
  ∀ (ρ : Nat → Int) (g : cg) (lsc : List (Nat × cv)) (d : Nat), patR h0 tyt GS I.2.2.1 ρ g lsc [] none → aInv tyt typs g → I.2.1 ≤ d → cT G h0 n0 I.1 d 0 lsc [] g (cn0 I.1) (sn0 I.1) (aQi h0 tyt typs GS I ρ g)
/-- what is asked of all -/
def aBase (sv : Nat → Int32) (cd : xcd) (mi : xmi) (df : xdf) (el ec : Nat → Nat) (eb : Nat → List Nat) (G : xG) (h0 : xheap) (cn0 sn0 : Nat → Nat) (tyt : Lean.RArray (Nat × Nat)) (typs : Lean.RArray (Nat × aty)) (GH : Nat → Nat → Nat → Int → cg → Prop) (HK : aenv → List ae → List am → List gho → Nat → ae → ae → Int × Int → Int × Int) (HS : aenv → List ae → List am → List gho → Nat → ae → ae → av → List gho) (HA : aenv → List ae → List am → List gho → Nat → ae → Nat → ae → ae → ae → ae → List gho) (HH : aenv → List ae → List am → List gho → gho → Bool) (HW : aenv → List ae → List am → List gho → List awr → List gho) : Prop :=
  cW sv cd mi df el eb G ∧ cH0 h0 ∧ aWd h0 tyt typs ∧ (el 0 < 2147483648 ∧ ∀ k : Nat, k = 2 ∨ k = 4 → ec k = el k) ∧ aHK h0 tyt (aGSd sv el GH) HK ∧ aHS h0 tyt (aGSd sv el GH) HS ∧ aHA h0 tyt (aGSd sv el GH) HA ∧ aHH h0 tyt (aGSd sv el GH) HH ∧ (aHW h0 tyt (aGSd sv el GH) HW ∧ aXS G h0 tyt typs (aGSd sv el GH)) ∧ (∀ (y : Nat) (q : Nat × Nat × Nat × Nat × Nat × Nat), xg mi y = some q → cn0 y ≤ q.1 ∧ sn0 y ≤ q.2.1) ∧ (∀ y t, xg cd y = some t → ∃ q, xg mi y = some q)
theorem aSMi_ok (hB : aBase sv cd mi df el ec eb G h0 cn0 sn0 tyt typs GH HK HS HA HH HW) {i : Nat} {wr : List awr} {p : Nat} {ρ0 : Nat → Int} {g0 : cg} (hwfI : ∀ c J, c < i → xg INS c = some J → awfI J = true) (hz : ∀ c J, c < i → xg INS c = some J → cn0 J.1 = 0 ∧ sn0 J.1 = 0) (ih : ∀ c J, c < i → xg INS c = some J → aInsOK G h0 n0 cn0 sn0 tyt typs (aGSd sv el GH) J) : aSM G h0 n0 tyt typs (aGSd sv el GH) (aFX p ρ0 g0 (awc tyt wr)) (aSMi h0 tyt typs HK HH HW cand INS i wr) := by
  obtain ⟨hG, h00, hW, hl, hHK, hHS, hHA, hHH, hHW, hmi, hmy⟩ := hB
  intro z dd args mem env fx gh ne k h ρ g argc d hC hA hI hX hd
  unfold aSMi at h
  obtain ⟨c, hc, h⟩ := List.any_eq_true.mp h
  obtain ⟨h1, h⟩ := xcnb h
  cases hJ : xg INS c with
  | none => rw [hJ] at h; cases h
  | some J =>
    rw [hJ] at h
    obtain ⟨h2, h⟩ := xcnb h
    obtain ⟨h3, h4⟩ := xand h2
    obtain ⟨h5, h6⟩ := xand h3
    obtain ⟨σ, mem', env', ne', ρ', k1, k2, k3, k4, k5, ⟨lsc', k6, k7⟩, -⟩ := aent_ok (st := []) (rv := none) (lsc := carg 0 argc) (stc := []) (rvc := none) hW hHK hHH hI hC (hA.imp (fun _ x => stR_arg 0 x)) (fun _ _ => trivial) (fun _ _ => trivial) h
    obtain ⟨k8, k9⟩ := xcnb k1
    have hwf := hwfI c J (xltb h1) hJ
    obtain ⟨-, hwf⟩ := xcnb hwf
    obtain ⟨hwf, -⟩ := xcnb hwf
    have hins := ih c J (xltb h1) hJ (asρ ρ' σ) g lsc' d k7 hI (by have := xleb h6; omega)
    obtain ⟨z1, z2⟩ := hz c J (xltb h1) hJ
    rw [z1, z2, xeqb h5] at hins
    refine (cT_drop hG k6 hins).run (fun g' rv hq hrun => ?_)
    obtain ⟨q1, q2, P, hP, ρ2, q3, q4⟩ := hq
    have wP := List.all_eq_true.mp hwf P hP
    obtain ⟨w1, wP⟩ := xcnb wP
    obtain ⟨w2, w3⟩ := xcnb wP
    have el' : σ.length = J.2.2.1.2.2.2.2.1.length := xeqb k8
    obtain ⟨rva, mem2, env2, fx2, gh2, ne2, ρ3, m1, m2, m3, m4, m5⟩ := apst_ok hHW.1 w1 (fun x hx => by
      have := List.all_eq_true.mp w3 x hx
      cases hb : Nat.beq x.1 50 with
      | true => rw [hb] at this; cases this
      | false =>
        rw [hb] at this
        simp only [cond_false] at this
        refine ⟨xneb hb, fun e => ?_⟩
        rw [e] at this
        cases this) k4 (by rw [el']; exact xleb w2) (by rw [el']; exact q3) q4 q2 (List.all_eq_true.mp k9 P hP)
    obtain ⟨fx3, gh3, m1, m4⟩ := aXSk_ok hHW.2 m1 (k4.mono m2 m3) (hA.mono (Nat.le_trans k2 m2) (aag.tr k2 k3 m3)) hI q1 q2 hrun m4 m5
    refine ⟨rva, mem2, env2, fx3, gh3, ne2, ρ3, m1, Nat.le_trans k2 m2, aag.tr k2 k3 m3, m4, q1, ?_, ?_⟩
    · obtain ⟨x1, x2, x3⟩ := hX
      refine ⟨by omega, aag.tr x1 x2 (aag.tr k2 k3 m3), fun kk j hn => ?_⟩
      rw [q2 kk j (fun hw => hn (awsb_ok h4 hw))]
      exact x3 kk j hn
    · cases rva with
      | none =>
        cases rv with
        | none => trivial
        | some v => exact m5.self.elim
      | some a =>
        cases rv with
        | none => exact m5.self.elim
        | some v => exact m5
theorem arn_ok (hB : aBase sv cd mi df el ec eb G h0 cn0 sn0 tyt typs GH HK HS HA HH HW) {f i : Nat} {I : ains} {P : apat} {M : Option ae} {pc : Nat} {ρe ρc : Nat → Int} {g0 g : cg} {lsc : List (Nat × cv)} {stc : List cv} {d : Nat} (hwf : awfP P = true) (hpn : I.2.2.1.2.2.2.2.1.length ≤ P.2.2.2.2.1.length) (hag : aag I.2.2.1.2.2.2.2.1.length ρe ρc) (hpat : patR h0 tyt (aGSd sv el GH) P ρc g lsc stc none) (hI : aInv tyt typs g) (hfr : ∀ k j : Nat, ¬ awc tyt I.2.2.2.2.2 k j → g k j = g0 k j) (hd : I.2.1 ≤ d)
    (hSM : aSM G h0 n0 tyt typs (aGSd sv el GH) (aFX P.2.2.2.2.1.length ρc g0 (awc tyt I.2.2.2.2.2)) (aSMi h0 tyt typs HK HH HW cand INS i I.2.2.2.2.2))
    (hcut : ∀ (pc' : Nat) (L : List apat) (P' : apat), acts I.2.2.2.1 pc' = some L → P' ∈ L → ∀ (ρ2 : Nat → Int) (g' : cg) (lsc' : List (Nat × cv)) (stc' : List cv) (d' : Nat), aag I.2.2.1.2.2.2.2.1.length ρe ρ2 → patR h0 tyt (aGSd sv el GH) P' ρ2 g' lsc' stc' none → aInv tyt typs g' → (∀ k j : Nat, ¬ awc tyt I.2.2.2.2.2 k j → g' k j = g0 k j) → I.2.1 ≤ d' → (∀ m0, M = some m0 → ∀ τ, aag P.2.2.2.2.1.length ρc τ → 0 ≤ ev ρ2 P'.2.2.2.2.2.2.2 ∧ (ev ρ2 P'.2.2.2.2.2.2.2 < ev τ m0 ∨ False)) → cT G h0 n0 I.1 d' pc' lsc' stc' g' (cn0 I.1) (sn0 I.1) (aQi h0 tyt typs (aGSd sv el GH) I ρe g0))
    (hM : ∀ m0, M = some m0 → ewf P.2.2.2.2.1.length m0.2 = true)
    (h : arnI h0 tyt typs HK HS HA HH HW cd mi ec eb inl fl spl cand INS f i I P M pc = true) : cT G h0 n0 I.1 d pc lsc stc g (cn0 I.1) (sn0 I.1) (aQi h0 tyt typs (aGSd sv el GH) I ρe g0) := by
  obtain ⟨hG, h00, hW, hl, hHK, hHS, hHA, hHH, hHW, hmi, hmy⟩ := hB
  unfold arnI at h
  obtain ⟨env, e1, e2⟩ := aini_ok P.2.2.2.2.1 0 (xmk none 9 0 512) _
  rw [e1] at h
  rw [xfrc_eq] at h
  have hγ : aGm h0 tyt typs (aGSd sv el GH) (aFX P.2.2.2.2.1.length ρc g0 (awc tyt I.2.2.2.2.2)) ρc P.1 P.2.1 [] P.2.2.2.1 env P.2.2.2.2.2.1 P.2.2.2.2.2.2.1 P.2.2.2.2.1.length g lsc stc [] := by
    refine ⟨fun τ hτ => ?_, fun τ hτ => ?_, hI, Nat.le_refl _, aag.rf _ _, hfr⟩
    · have hp := patR_ag hwf hτ hpat
      refine ⟨fun s v hs => ?_, hp.2.2.2.2.2.1, hp.2.2.2.1, hp.2.2.2.2.2.2⟩
      rcases e2 s v hs with q | ⟨j, q1, q2⟩
      · have := xmk_val none 9 0 512 s (some v) q
        cases this
      · have e : s = j := by omega
        rw [e]
        exact hp.2.2.2.2.1 j v q2
    · have hp := patR_ag hwf hτ hpat
      exact ⟨hp.1, hp.2.1, trivial⟩
  have hOK : aOK sv cd mi df el ec eb G h0 n0 cn0 sn0 (aQi h0 tyt typs (aGSd sv el GH) I ρe g0) tyt typs (aGSd sv el GH) (aFX P.2.2.2.2.1.length ρc g0 (awc tyt I.2.2.2.2.2)) (awc tyt I.2.2.2.2.2) HK HS (aWK I.2.2.2.2.2) (aWA I.2.2.2.2.2) HA (aSMi h0 tyt typs HK HH HW cand INS i I.2.2.2.2.2) (aRTi h0 tyt typs HK HH I) := by
    refine ⟨hG, aFX_m, fun ρ ne g k j z hx hw => ⟨hx.1, hx.2.1, fun k' j' hn => ?_⟩, fun ρ ne g ka kb s d n hx hw => ⟨hx.1, hx.2.1, fun k' j' hn => ?_⟩, h00, hW, aGSd_0 hl, hHK, hHS, aWK_ok, hHA, aWA_ok, hSM, ?_, hmi, hmy⟩
    · unfold cup
      rw [if_neg (fun e => hn (by rw [e.1, e.2]; exact hw))]
      exact hx.2.2 k' j' hn
    · unfold ccp
      rw [if_neg (fun e => hn (by rw [e.1]; exact hw j'))]
      exact hx.2.2 k' j' hn
    · intro rva mem env fx gh ne hr ρ g' rv hC hI' hX hv
      obtain ⟨P', hP', hr⟩ := List.any_eq_true.mp hr
      obtain ⟨σ, mem', env', ne', ρ', k1, k2, k3, k4, k5, ⟨lsc', k6, k7⟩, -⟩ := aent_ok (ls := []) (st := []) (rv := rva) (lsc := []) (stc := []) (rvc := rv) hW hHK hHH hI' hC (fun _ _ => trivial) (fun _ _ => trivial) (fun τ hτ => by
        cases rva with
        | none => cases rv with
          | none => trivial
          | some v => exact hv.elim
        | some a => cases rv with
          | none => exact hv.elim
          | some v => exact hv τ hτ) hr
      have el0 : lsc' = [] := by
        cases lsc' with
        | nil => rfl
        | cons q l => exact absurd (k6 q List.mem_cons_self) List.not_mem_nil
      subst el0
      refine ⟨hI', hX.2.2, P', hP', asρ ρ' σ, ?_, k7⟩
      exact aag.tr (Nat.le_refl _) hag (aag.tr (Nat.le_refl _) (fun s hs => (aag.tr hX.1 hX.2.1 k3) s (by omega)) k5)
  have hCU : aCU G h0 n0 cn0 sn0 (aQi h0 tyt typs (aGSd sv el GH) I ρe g0) tyt typs (aGSd sv el GH) (aFX P.2.2.2.2.1.length ρc g0 (awc tyt I.2.2.2.2.2)) I.1 (aCTi I) (aCUi h0 tyt typs HK HH I M) := by
    intro y dd pc' ls st mem env fx gh ne hct hcu ρ g' lsc2 stc2 d2 hγ2 hd2 hy
    subst hy
    obtain ⟨hdd, hcu⟩ := xcnb hcu
    cases hL : acts I.2.2.2.1 pc' with
    | none => rw [hL] at hcu; cases hcu
    | some L =>
      rw [hL] at hcu
      obtain ⟨P', hP', hr⟩ := List.any_eq_true.mp hcu
      obtain ⟨σ, mem', env', ne', ρ', k1, k2, k3, k4, k5, ⟨lsc', k6, k7⟩, k8⟩ := aent_ok (rv := none) (lsc := lsc2) (stc := stc2) (rvc := none) hW hHK hHH hγ2.2.2.1 hγ2.1 hγ2.gl hγ2.gs (fun _ _ => trivial) hr
      obtain ⟨x1, x2, x3⟩ := hγ2.2.2.2
      have hρ' : aag P.2.2.2.2.1.length ρc ρ' := aag.tr x1 x2 k3
      refine cT_drop hG k6 (hcut pc' L P' hL hP' (asρ ρ' σ) g' lsc' stc2 d2 ?_ k7 hγ2.2.2.1 x3 (by have := xleb hdd; omega) (fun m0 em τ hτ => ?_))
      · exact aag.tr (Nat.le_refl _) hag (aag.tr (Nat.le_refl _) (fun s hs => hρ' s (by omega)) k5)
      · obtain ⟨l1, l2⟩ := k8 m0 em
        refine ⟨l1, Or.inl ?_⟩
        rw [ewf_ev hτ (hM m0 em), ← ewf_ev hρ' (hM m0 em)]
        exact l2
  exact aone_ok hOK (arun_ok hOK hCU f) _ _ _ _ _ _ _ _ _ _ _ h ρc g lsc stc [] d hγ hd
theorem ains_ok (hB : aBase sv cd mi df el ec eb G h0 cn0 sn0 tyt typs GH HK HS HA HH HW) {f i : Nat} {I : ains} (hI : xg INS i = some I) (hc : achI h0 tyt typs HK HS HA HH HW cd mi ec eb inl fl spl cand INS f i = true) (hwfI : ∀ c J, c < i → xg INS c = some J → awfI J = true) (hz : ∀ c J, c < i → xg INS c = some J → cn0 J.1 = 0 ∧ sn0 J.1 = 0) (ih : ∀ c J, c < i → xg INS c = some J → aInsOK G h0 n0 cn0 sn0 tyt typs (aGSd sv el GH) J) : aInsOK G h0 n0 cn0 sn0 tyt typs (aGSd sv el GH) I := by
  unfold achI at hc
  rw [hI] at hc
  obtain ⟨c1, hc⟩ := xcnb hc
  obtain ⟨c2, c3⟩ := xcnb hc
  obtain ⟨w1, w⟩ := xcnb c1
  obtain ⟨w2, w3⟩ := xcnb w
  intro ρe g0 lsc d hpat hInv hd
  have cuts : ∀ (n : Nat) (pc : Nat) (L : List apat) (P : apat), acts I.2.2.2.1 pc = some L → P ∈ L → ∀ (ρc : Nat → Int) (g : cg) (lsc : List (Nat × cv)) (stc : List cv) (d : Nat), aag I.2.2.1.2.2.2.2.1.length ρe ρc → patR h0 tyt (aGSd sv el GH) P ρc g lsc stc none → aInv tyt typs g → (∀ k j : Nat, ¬ awc tyt I.2.2.2.2.2 k j → g k j = g0 k j) → I.2.1 ≤ d → ev ρc P.2.2.2.2.2.2.2 < (n : Int) → cT G h0 n0 I.1 d pc lsc stc g (cn0 I.1) (sn0 I.1) (aQi h0 tyt typs (aGSd sv el GH) I ρe g0) := by
    intro n
    induction n with
    | zero =>
      intro pc L P hL hP ρc g lsc stc d hag hp hI' hfr hd' hm
      have wP := List.all_eq_true.mp (List.all_eq_true.mp w3 (pc, L) (acts_mem hL)) P hP
      obtain ⟨v1, wP⟩ := xcnb wP
      obtain ⟨v2, v3⟩ := xcnb wP
      have hrun := List.all_eq_true.mp (List.all_eq_true.mp c3 (pc, L) (acts_mem hL)) P hP
      refine arn_ok hB v1 (xleb v2) hag hp hI' hfr hd' (aSMi_ok hB hwfI hz ih) (fun pc' L' P' hL' hP' ρ2 g' lsc' stc' d' a1 a2 a3 a4 a5 a6 => ?_) (fun m0 em => by have : P.2.2.2.2.2.2.2 = m0 := Option.some.inj em; rw [← this]; exact v3) hrun
      obtain ⟨b1, b2⟩ := a6 _ rfl ρc (aag.rf _ _)
      rcases b2 with b2 | b2
      · omega
      · exact b2.elim
    | succ n ihn =>
      intro pc L P hL hP ρc g lsc stc d hag hp hI' hfr hd' hm
      have wP := List.all_eq_true.mp (List.all_eq_true.mp w3 (pc, L) (acts_mem hL)) P hP
      obtain ⟨v1, wP⟩ := xcnb wP
      obtain ⟨v2, v3⟩ := xcnb wP
      have hrun := List.all_eq_true.mp (List.all_eq_true.mp c3 (pc, L) (acts_mem hL)) P hP
      refine arn_ok hB v1 (xleb v2) hag hp hI' hfr hd' (aSMi_ok hB hwfI hz ih) (fun pc' L' P' hL' hP' ρ2 g' lsc' stc' d' a1 a2 a3 a4 a5 a6 => ?_) (fun m0 em => by have : P.2.2.2.2.2.2.2 = m0 := Option.some.inj em; rw [← this]; exact v3) hrun
      obtain ⟨b1, b2⟩ := a6 _ rfl ρc (aag.rf _ _)
      rcases b2 with b2 | b2
      · exact ihn pc' L' P' hL' hP' ρ2 g' lsc' stc' d' a1 a2 a3 a4 a5 (by omega)
      · exact b2.elim
  refine arn_ok (ρe := ρe) hB w1 (Nat.le_refl _) (aag.rf _ _) hpat hInv (fun _ _ _ => rfl) hd (aSMi_ok hB hwfI hz ih) (fun pc' L' P' hL' hP' ρ2 g' lsc' stc' d' a1 a2 a3 a4 a5 a6 => ?_) (fun m0 em => by cases em) c2
  exact cuts ((ev ρ2 P'.2.2.2.2.2.2.2).toNat + 1) pc' L' P' hL' hP' ρ2 g' lsc' stc' d' a1 a2 a3 a4 a5 (by omega)
/-- all instances, one behind another -/
theorem ains_all (hB : aBase sv cd mi df el ec eb G h0 cn0 sn0 tyt typs GH HK HS HA HH HW) {f N : Nat} (hc : ∀ i, i < N → achI h0 tyt typs HK HS HA HH HW cd mi ec eb inl fl spl cand INS f i = true) (hz : ∀ c J, c + 1 < N → xg INS c = some J → cn0 J.1 = 0 ∧ sn0 J.1 = 0) : ∀ i, i < N → ∀ I, xg INS i = some I → aInsOK G h0 n0 cn0 sn0 tyt typs (aGSd sv el GH) I := by
  intro i
  induction i using Nat.strongRecOn with
  | _ i ih =>
    intro hi I hI
    refine ains_ok hB hI (hc i hi) (fun c J hci hJ => ?_) (fun c J hci hJ => hz c J (by omega) hJ) (fun c J hci hJ => ih c hci (by omega) J hJ)
    have := hc c (by omega)
    unfold achI at this
    rw [hJ] at this
    exact (xcnb this).1
end InsS
end
section
/-! Ghosts: the trials' rows are as their kind says; copies -/
/-- type, cell, first place, distance -/
abbrev afc : Type := Nat × Nat × Nat × Nat
/-- the number of rows (type, cell, place), the kinds' column, the others, rules (kind from, to, column, least, most) -/
abbrev afam : Type := (Nat × Nat × Nat) × afc × List afc × List (Int × Int × Nat × Int × Int)
def gRI (F : afam) (d : Nat) (g : cg) : Prop :=
  g F.1.2.1 F.1.2.2 ≤ 60 ∧ ∀ r : Nat, (r : Int) < g F.1.2.1 F.1.2.2 - (d : Int) → ∀ q ∈ F.2.2.2, q.1 ≤ g F.2.1.2.1 (F.2.1.2.2.1 + F.2.1.2.2.2 * r) → g F.2.1.2.1 (F.2.1.2.2.1 + F.2.1.2.2.2 * r) ≤ q.2.1 → ∀ c : afc, agt F.2.2.1 q.2.2.1 = some c → q.2.2.2.1 ≤ g c.2.1 (c.2.2.1 + c.2.2.2 * r) ∧ g c.2.1 (c.2.2.1 + c.2.2.2 * r) ≤ q.2.2.2.2
/-- the sum of what is above 0, of the cell's first n places -/
def psum (g : cg) (k : Nat) : Nat → Int
  | 0 => 0
  | n + 1 => psum g k n + (if 0 ≤ g k n then g k n else 0)
theorem psum_cg {g g' : cg} {k : Nat} : ∀ {n : Nat}, (∀ j, j < n → g' k j = g k j) → psum g' k n = psum g k n
  | 0, _ => rfl
  | n + 1, h => by
    show psum g' k n + (if 0 ≤ g' k n then g' k n else 0) = psum g k n + (if 0 ≤ g k n then g k n else 0)
    rw [h n (by omega), psum_cg (fun j hj => h j (by omega))]
theorem psum_0 {g : cg} {k : Nat} : ∀ n : Nat, 0 ≤ psum g k n
  | 0 => Int.le_refl _
  | n + 1 => by
    have := psum_0 (g := g) (k := k) n
    show 0 ≤ psum g k n + (if 0 ≤ g k n then g k n else 0)
    split <;> omega
theorem psum_le {g : cg} {k : Nat} {m : Int} (hm : 0 ≤ m) : ∀ n : Nat, (∀ j, j < n → g k j ≤ m) → psum g k n ≤ (n : Int) * m
  | 0, _ => by show (0 : Int) ≤ _; rw [show ((0 : Nat) : Int) = 0 from rfl, Int.zero_mul]; omega
  | n + 1, h => by
    have h1 := psum_le hm n (fun j hj => h j (by omega))
    have h2 := h n (by omega)
    have e : ((n + 1 : Nat) : Int) * m = (n : Int) * m + m := by rw [show ((n + 1 : Nat) : Int) = (n : Int) + 1 from rfl, Int.add_mul, Int.one_mul]
    rw [e]
    show psum g k n + (if 0 ≤ g k n then g k n else 0) ≤ _
    split <;> omega
theorem psum_up {g : cg} {k j : Nat} {z : Int} (h1 : 0 ≤ g k j) (h2 : 0 ≤ z) : ∀ {n : Nat}, j < n → psum (cup g k j z) k n = psum g k n + z - g k j
  | 0, h => by omega
  | n + 1, h => by
    show psum (cup g k j z) k n + (if 0 ≤ cup g k j z k n then cup g k j z k n else 0) = psum g k n + (if 0 ≤ g k n then g k n else 0) + z - g k j
    by_cases e : n = j
    · subst e
      have e1 : cup g k n z k n = z := by unfold cup; rw [if_pos ⟨rfl, rfl⟩]
      rw [e1, psum_cg (g := g) (fun i hi => by unfold cup; rw [if_neg (fun q => by have := q.2; omega)]), if_pos h1, if_pos h2]
      omega
    · have e1 : cup g k j z k n = g k n := by unfold cup; rw [if_neg (fun q => e q.2)]
      rw [e1, psum_up h1 h2 (by omega)]
      omega
def gGH (fam : Lean.RArray (Nat × afam)) (AT : Nat) (π : Int) (k a b : Nat) (E : Int) (g : cg) : Prop :=
  match k with
  | 1 => ∀ F, xg fam a = some F → gRI F b g
  | 2 => ∀ j : Nat, (j : Int) < E → g AT (a + j) = g AT (b + j)
  | 3 => ∀ j : Nat, (j : Int) < E → g a j = g b j
  | 4 => psum g a b = π + E
  | _ => True
section Gho
variable {h0 : xheap} {tyt : Lean.RArray (Nat × Nat)} {GS : gho → (Nat → Int) → cg → Prop}
noncomputable def gnum (env : aenv) (mem : List am) (t k : Nat) (i : ae) : Option ae := match amg env t ((k : Int), []) i mem with
  | none => none
  | some v => cond (Nat.beq v.1 0) (some v.2.2) none
theorem gnum_ok {env : aenv} {fx : List ae} {mem : List am} {gh : List gho} {g : cg} {ρ : Nat → Int} (hC : coR h0 tyt GS env fx mem gh g ρ) {t k : Nat} {i e : ae} (h : gnum env mem t k i = some e) : ∃ j : Nat, ev ρ i = (j : Int) ∧ g k j = ev ρ e ∧ xg tyt k = some t := by
  unfold gnum at h
  cases ha : amg env t ((k : Int), []) i mem with
  | none => rw [ha] at h; cases h
  | some v =>
    rw [ha] at h
    obtain ⟨h1, h2⟩ := xcnd h
    have h2 : v.2.2 = e := Option.some.inj h2
    obtain ⟨k', j, w, a1, a2, ⟨q, ww, c1, c2, c3⟩, a4, a5⟩ := amg_okT hC.1 hC.2.2.1 ha
    rw [evc] at a1
    have ek : k' = k := by omega
    subst ek
    subst c3
    refine ⟨j, a2, ?_, a5⟩
    rw [avR_num a4 (Or.inl (xeqb h1)), h2]
/-- e by s, where s divides all -/
def edv (s : Int) (e : ae) : ae := (Int.ediv e.1 s, e.2.map (fun q => (q.1, Int.ediv q.2 s)))
theorem edvl_ev {s : Int} (ρ : Nat → Int) : ∀ {l : List (Nat × Int)}, zdvd s l = true → s * evl ρ (l.map (fun q => (q.1, Int.ediv q.2 s))) = evl ρ l
  | [], _ => Int.mul_zero s
  | q :: l, h => by
    obtain ⟨h1, h2⟩ := xcnb (show cond (zeq (Int.emod q.2 s) 0) (zdvd s l) false = true from h)
    have h3 : s ∣ q.2 := Int.dvd_of_emod_eq_zero (zeq_iff.mp h1)
    show s * (Int.ediv q.2 s * ρ q.1 + evl ρ (l.map (fun q => (q.1, Int.ediv q.2 s)))) = q.2 * ρ q.1 + evl ρ l
    rw [Int.mul_add, edvl_ev ρ h2, ← Int.mul_assoc]
    have e : s * Int.ediv q.2 s = q.2 := Int.mul_ediv_cancel' h3
    rw [e]
theorem edv_ev {s : Int} {e : ae} (ρ : Nat → Int) (h1 : zeq (Int.emod e.1 s) 0 = true) (h2 : zdvd s e.2 = true) : s * ev ρ (edv s e) = ev ρ e := by
  have h3 : s ∣ e.1 := Int.dvd_of_emod_eq_zero (zeq_iff.mp h1)
  show s * (Int.ediv e.1 s + evl ρ (e.2.map (fun q => (q.1, Int.ediv q.2 s)))) = e.1 + evl ρ e.2
  rw [Int.mul_add, edvl_ev ρ h2]
  have e : s * Int.ediv e.1 s = e.1 := Int.mul_ediv_cancel' h3
  rw [e]
noncomputable def ghkc (env : aenv) (fx : List ae) (mem : List am) (t : Nat) (c i : ae) (F : afam) (n : ae) (ci : Nat) (col : afc) (b : Int × Int) : Int × Int :=
  cond (cond (Nat.beq col.1 t) (cond (eeqb c ((col.2.1 : Int), [])) (cond (zeq (Int.emod (Int.add i.1 (Int.neg (col.2.2.1 : Int))) (col.2.2.2 : Int)) 0) (zdvd (col.2.2.2 : Int) i.2) false) false) false)
    (efrc (edv (col.2.2.2 : Int) (eadc i (Int.neg (col.2.2.1 : Int)))) (fun r => cond (cond (Nat.blt 0 col.2.2.2) (cond (elef env fx 2 (escl r (-1))) (elef env fx 2 (eadc (eadd r n (-1)) 1)) false) false)
      (match gnum env mem F.2.1.1 F.2.1.2.1 (eadc (escl r (F.2.1.2.2.2 : Int)) (F.2.1.2.2.1 : Int)) with
        | none => b
        | some K => match ebd env [] K with
          | none => b
          | some ik => F.2.2.2.foldl (fun b q => cond (Nat.beq q.2.2.1 ci) (cond (zle q.1 ik.1) (cond (zle ik.2 q.2.1) (zmx b.1 q.2.2.2.1, zmn b.2 q.2.2.2.2) b) b) b) b) b)) b
theorem ghkf {α : Type} {z : Int} {f : Int × Int → α → Int × Int} : ∀ (l : List α) (b : Int × Int), (∀ b, ∀ q ∈ l, b.1 ≤ z ∧ z ≤ b.2 → (f b q).1 ≤ z ∧ z ≤ (f b q).2) → b.1 ≤ z ∧ z ≤ b.2 → (l.foldl f b).1 ≤ z ∧ z ≤ (l.foldl f b).2
  | [], _, _, h => h
  | q :: l, b, hf, h => ghkf l (f b q) (fun b x hx => hf b x (List.mem_cons_of_mem _ hx)) (hf b q List.mem_cons_self h)
theorem ghkc_ok {env : aenv} {fx : List ae} {mem : List am} {gh : List gho} {g : cg} {ρ : Nat → Int} (hC : coR h0 tyt GS env fx mem gh g ρ) {t : Nat} {c i : ae} {F : afam} {n : ae} {ci : Nat} {col : afc} {b : Int × Int} {k j : Nat} (hc : ev ρ c = (k : Int)) (hi : ev ρ i = (j : Int)) (hn : g F.1.2.1 F.1.2.2 = ev ρ n) (hRI : gRI F 0 g) (hcol : agt F.2.2.1 ci = some col) (hb : b.1 ≤ g k j ∧ g k j ≤ b.2) : (ghkc env fx mem t c i F n ci col b).1 ≤ g k j ∧ g k j ≤ (ghkc env fx mem t c i F n ci col b).2 := by
  unfold ghkc
  cases h1 : (cond (Nat.beq col.1 t) (cond (eeqb c ((col.2.1 : Int), [])) (cond (zeq (Int.emod (Int.add i.1 (Int.neg (col.2.2.1 : Int))) (col.2.2.2 : Int)) 0) (zdvd (col.2.2.2 : Int) i.2) false) false) false) with
  | false => exact hb
  | true =>
    simp only [cond_true]
    rw [efrc_eq]
    obtain ⟨a1, h1⟩ := xcnb h1
    obtain ⟨a2, h1⟩ := xcnb h1
    obtain ⟨a3, a4⟩ := xcnb h1
    have er := edv_ev ρ (e := eadc i (Int.neg (col.2.2.1 : Int))) (s := (col.2.2.2 : Int)) a3 a4
    rw [eadc_ev, hi] at er
    generalize edv (col.2.2.2 : Int) (eadc i (Int.neg (col.2.2.1 : Int))) = r at er
    have er : (col.2.2.2 : Int) * ev ρ r = (j : Int) + -(col.2.2.1 : Int) := er
    cases h2 : (cond (Nat.blt 0 col.2.2.2) (cond (elef env fx 2 (escl r (-1))) (elef env fx 2 (eadc (eadd r n (-1)) 1)) false) false) with
    | false => exact hb
    | true =>
      simp only [cond_true]
      obtain ⟨b0, h2⟩ := xcnb h2
      obtain ⟨b1, b2⟩ := xcnb h2
      have b1 := elef_ok hC.1 hC.2.1 2 _ b1
      have b2 := elef_ok hC.1 hC.2.1 2 _ b2
      rw [escl_ev] at b1
      rw [eadc_ev, eadd_ev] at b2
      obtain ⟨rn, hrn⟩ : ∃ rn : Nat, ev ρ r = (rn : Int) := ⟨(ev ρ r).toNat, by omega⟩
      cases hK : gnum env mem F.2.1.1 F.2.1.2.1 (eadc (escl r (F.2.1.2.2.2 : Int)) (F.2.1.2.2.1 : Int)) with
      | none => exact hb
      | some K =>
        dsimp only
        cases hik : ebd env [] K with
        | none => exact hb
        | some ik =>
          dsimp only
          obtain ⟨jk, k1, k2, -⟩ := gnum_ok hC hK
          rw [eadc_ev, escl_ev, hrn] at k1
          have hkv := ebd_ok hC.1 (show fxR [] ρ from fun _ z => absurd z List.not_mem_nil) hik
          have ek : k = col.2.1 := by
            have := eeqb_ok a2
            rw [this, evc] at hc
            omega
          have ej : j = col.2.2.1 + col.2.2.2 * rn := by
            rw [hrn] at er
            have e2 : ((col.2.2.2 * rn : Nat) : Int) = (col.2.2.2 : Int) * (rn : Int) := Int.natCast_mul _ _
            omega
          have ejk : jk = F.2.1.2.2.1 + F.2.1.2.2.2 * rn := by
            have e2 : ((F.2.1.2.2.2 * rn : Nat) : Int) = (F.2.1.2.2.2 : Int) * (rn : Int) := Int.natCast_mul _ _
            omega
          refine ghkf _ b (fun b' q hq hb' => ?_) hb
          cases c1 : Nat.beq q.2.2.1 ci with
          | false => exact hb'
          | true =>
            simp only [cond_true]
            cases c2 : zle q.1 ik.1 with
            | false => exact hb'
            | true =>
              simp only [cond_true]
              cases c3 : zle ik.2 q.2.1 with
              | false => exact hb'
              | true =>
                simp only [cond_true]
                have c2 := zle_iff.mp c2
                have c3 := zle_iff.mp c3
                have key := hRI.2 rn (by rw [hn]; omega) q hq (by rw [← ejk, k2]; omega) (by rw [← ejk, k2]; omega) col (by rw [xeqb c1]; exact hcol)
                rw [← ej, ← ek] at key
                exact ⟨zmx_of hb'.1 key.1, zmn_of hb'.2 key.2⟩
noncomputable def ghkl (env : aenv) (fx : List ae) (mem : List am) (t : Nat) (c i : ae) (F : afam) (n : ae) : Nat → List afc → Int × Int → Int × Int
  | _, [], b => b
  | ci, col :: l, b => ghkl env fx mem t c i F n (ci + 1) l (ghkc env fx mem t c i F n ci col b)
theorem ghkl_ok {env : aenv} {fx : List ae} {mem : List am} {gh : List gho} {g : cg} {ρ : Nat → Int} (hC : coR h0 tyt GS env fx mem gh g ρ) {t : Nat} {c i : ae} {F : afam} {n : ae} {k j : Nat} (hc : ev ρ c = (k : Int)) (hi : ev ρ i = (j : Int)) (hn : g F.1.2.1 F.1.2.2 = ev ρ n) (hRI : gRI F 0 g) : ∀ (l : List afc) (ci : Nat) (b : Int × Int), (∀ x col, agt l x = some col → agt F.2.2.1 (ci + x) = some col) → b.1 ≤ g k j ∧ g k j ≤ b.2 → (ghkl env fx mem t c i F n ci l b).1 ≤ g k j ∧ g k j ≤ (ghkl env fx mem t c i F n ci l b).2
  | [], _, b, _, hb => hb
  | col :: l, ci, b, hx, hb => ghkl_ok hC hc hi hn hRI l (ci + 1) _ (fun x cl h => by have := hx (x + 1) cl h; rw [show ci + 1 + x = ci + (x + 1) by omega]; exact this) (ghkc_ok hC hc hi hn hRI (hx 0 col rfl) hb)
/-- what is loaded, by the rows' ghosts -/
noncomputable def gHK (fam : Lean.RArray (Nat × afam)) (env : aenv) (fx : List ae) (mem : List am) (gh : List gho) (t : Nat) (c i : ae) (b : Int × Int) : Int × Int :=
  gh.foldl (fun b x => cond (cond (Nat.beq x.1 1) (Nat.beq x.2.2.1 0) false) (match xg fam x.2.1 with
    | none => b
    | some F => match gnum env mem F.1.1 F.1.2.1 ((F.1.2.2 : Int), []) with
      | none => b
      | some n => ghkl env fx mem t c i F n 0 F.2.2.1 b) b) b
theorem gHK_ok {sv : Nat → Int32} {el : Nat → Nat} {fam : Lean.RArray (Nat × afam)} {AT : Nat} {π : Int} : aHK h0 tyt (aGSd sv el (gGH fam AT π)) (gHK fam) := by
  intro env fx mem gh g ρ t c i b k j hC hc hi ht hb1 hb2
  unfold gHK
  refine ghkf gh b (fun b' x hx hb' => ?_) ⟨hb1, hb2⟩
  cases h1 : cond (Nat.beq x.1 1) (Nat.beq x.2.2.1 0) false with
  | false => exact hb'
  | true =>
    obtain ⟨a1, a2⟩ := xcnb h1
    simp only [cond_true]
    cases hF : xg fam x.2.1 with
    | none => exact hb'
    | some F =>
      dsimp only
      cases hn : gnum env mem F.1.1 F.1.2.1 ((F.1.2.2 : Int), []) with
      | none => exact hb'
      | some n =>
        dsimp only
        obtain ⟨jn, n1, n2, -⟩ := gnum_ok hC hn
        rw [evc] at n1
        have ejn : jn = F.1.2.2 := by omega
        rw [ejn] at n2
        have hRI : gRI F 0 g := by
          have hg := hC.2.2.2 x hx
          obtain ⟨xk, xa, xb, xe⟩ := x
          have e1 : xk = 1 := xeqb a1
          have e2 : xb = 0 := xeqb a2
          subst e1; subst e2
          exact hg F hF
        exact ghkl_ok hC hc hi n2 hRI _ 0 b' (fun x' col h => by rw [Nat.zero_add]; exact h) hb'
end Gho
end
section
/-! Ghosts: what a store, what a call's writes leave -/
section Gho2
variable {h0 : xheap} {tyt : Lean.RArray (Nat × Nat)} {GS : gho → (Nat → Int) → cg → Prop}
/-- a store at t, c, i (between lo and hi) meets no row of the column that lies below n - d -/
noncomputable def gcf (env : aenv) (fx : List ae) (t : Nat) (c i : ae) (lo hi : Int) (n : Option ae) (d : Nat) (col : afc) : Bool :=
  cond (Nat.beq col.1 t) (cond (ene env c ((col.2.1 : Int), [])) true (cond (zlt hi (col.2.2.1 : Int)) true (cond (zlt ((col.2.2.1 + col.2.2.2 * 59 : Nat) : Int) lo) true
    (cond (!(zeq (Int.emod (Int.add i.1 (Int.neg (col.2.2.1 : Int))) (Nat.gcd col.2.2.2 (zgcd i.2) : Nat)) 0)) true (match n with
      | none => false
      | some n => cond (Nat.blt 0 col.2.2.2) (efrc (eadd (eadc (escl n (col.2.2.2 : Int)) (Int.add (col.2.2.1 : Int) (Int.neg ((col.2.2.2 * d : Nat) : Int)))) i (-1)) (fun x => elef env fx 2 x)) false))))) true
theorem gcf_ok {env : aenv} {fx : List ae} {ρ : Nat → Int} (hE : envR env ρ) (hX : fxR fx ρ) {t : Nat} {c i : ae} {lo hi : Int} {n : Option ae} {d : Nat} {col : afc} {N : Int} {k j : Nat} (hc : ev ρ c = (k : Int)) (hi' : ev ρ i = (j : Int)) (hlo : lo ≤ (j : Int)) (hhi : (j : Int) ≤ hi) (ht : xg tyt k = some t) (htc : xg tyt col.2.1 = some col.1) (hn : ∀ e, n = some e → N = ev ρ e) (hN : N ≤ 60) (h : gcf env fx t c i lo hi n d col = true) : ∀ r : Nat, (r : Int) < N - (d : Int) → ¬ (col.2.1 = k ∧ col.2.2.1 + col.2.2.2 * r = j) := by
  intro r hr ⟨e1, e2⟩
  unfold gcf at h
  have et : col.1 = t := by rw [e1] at htc; exact Option.some.inj (htc.symm.trans ht)
  rw [xnb1 et] at h
  simp only [cond_true] at h
  have hr59 : r ≤ 59 := by omega
  have hmul : col.2.2.2 * r ≤ col.2.2.2 * 59 := Nat.mul_le_mul_left _ hr59
  have ej : (j : Int) = (col.2.2.1 : Int) + ((col.2.2.2 * r : Nat) : Int) := by omega
  rcases xcnt h with h | h
  · have := ene_ok hE h
    rw [hc, evc] at this
    exact this (by omega)
  · rcases xcnt h with h | h
    · have := zlt_iff.mp h; omega
    · rcases xcnt h with h | h
      · have := zlt_iff.mp h; omega
      · rcases xcnt h with h | h
        · have hd2 : ((Nat.gcd col.2.2.2 (zgcd i.2) : Nat) : Int) ∣ evl ρ i.2 := Int.dvd_trans (Int.natCast_dvd_natCast.mpr (Nat.gcd_dvd_right _ _)) (zgcd_ok ρ i.2)
          have hd3 : ((Nat.gcd col.2.2.2 (zgcd i.2) : Nat) : Int) ∣ ((col.2.2.2 * r : Nat) : Int) := Int.natCast_dvd_natCast.mpr (Nat.dvd_trans (Nat.gcd_dvd_left _ _) (Nat.dvd_mul_right _ _))
          have e3 : Int.add i.1 (Int.neg (col.2.2.1 : Int)) = ((col.2.2.2 * r : Nat) : Int) - evl ρ i.2 := by
            show i.1 + -(col.2.2.1 : Int) = _
            have : ev ρ i = i.1 + evl ρ i.2 := rfl
            omega
          have h4 : Int.emod (Int.add i.1 (Int.neg (col.2.2.1 : Int))) ((Nat.gcd col.2.2.2 (zgcd i.2) : Nat) : Int) = 0 := by
            apply Int.emod_eq_zero_of_dvd
            rw [e3]
            exact Int.dvd_sub hd3 hd2
          rw [zeq_iff.mpr h4] at h
          cases h
        · cases n with
          | none => cases h
          | some e =>
            obtain ⟨hs0, h⟩ := xcnb h
            have hs0 := xltb hs0
            rw [efrc_eq] at h
            have h := elef_ok hE hX 2 _ h
            rw [eadd_ev, eadc_ev, escl_ev, hi', ← hn e rfl] at h
            have h : (col.2.2.2 : Int) * N + ((col.2.2.1 : Int) + -((col.2.2.2 * d : Nat) : Int)) + -1 * (j : Int) ≤ 0 := h
            have m1 : ((col.2.2.2 * r : Nat) : Int) = (col.2.2.2 : Int) * (r : Int) := Int.natCast_mul _ _
            have m2 : ((col.2.2.2 * d : Nat) : Int) = (col.2.2.2 : Int) * (d : Int) := Int.natCast_mul _ _
            have m3 : (col.2.2.2 : Int) * (N - (d : Int)) = (col.2.2.2 : Int) * N - (col.2.2.2 : Int) * (d : Int) := Int.mul_sub _ _ _
            have m4 : (col.2.2.2 : Int) * ((r : Int) + 1) ≤ (col.2.2.2 : Int) * (N - (d : Int)) := Int.mul_le_mul_of_nonneg_left (by omega) (by omega)
            rw [Int.mul_add, Int.mul_one] at m4
            omega
/-- what the tables must say of the families -/
def gfT (tyt : Lean.RArray (Nat × Nat)) (fam : Lean.RArray (Nat × afam)) : Prop := ∀ (f : Nat) (F : afam), xg fam f = some F → xg tyt F.1.2.1 = some F.1.1 ∧ xg tyt F.2.1.2.1 = some F.2.1.1 ∧ ∀ col ∈ F.2.2.1, xg tyt col.2.1 = some col.1
/-- rows that nothing touches stay as they are -/
theorem gRI_keep {F : afam} {d : Nat} {g g' : cg} (h : gRI F d g) (hN : g' F.1.2.1 F.1.2.2 = g F.1.2.1 F.1.2.2) (hk : ∀ r : Nat, (r : Int) < g F.1.2.1 F.1.2.2 - (d : Int) → g' F.2.1.2.1 (F.2.1.2.2.1 + F.2.1.2.2.2 * r) = g F.2.1.2.1 (F.2.1.2.2.1 + F.2.1.2.2.2 * r) ∧ ∀ col ∈ F.2.2.1, g' col.2.1 (col.2.2.1 + col.2.2.2 * r) = g col.2.1 (col.2.2.1 + col.2.2.2 * r)) : gRI F d g' := by
  refine ⟨by rw [hN]; exact h.1, fun r hr q hq q1 q2 c hc => ?_⟩
  rw [hN] at hr
  obtain ⟨k1, k2⟩ := hk r hr
  rw [k1] at q1 q2
  rw [k2 c (agt_mem hc)]
  exact h.2 r hr q hq q1 q2 c hc
/-- a store beside the rows and their number -/
noncomputable def gfre (env : aenv) (fx : List ae) (mem : List am) (t : Nat) (c i : ae) (F : afam) (d : Nat) : Bool :=
  cond (cond (Nat.beq F.1.1 t) (cond (ene env c ((F.1.2.1 : Int), [])) true (ene env i ((F.1.2.2 : Int), []))) true)
    (match eu env i with
      | none => false
      | some hi => efrc (escl i (-1)) (fun m => match eu env m with
        | none => false
        | some lo => cond (gcf env fx t c i (Int.neg lo) hi (gnum env mem F.1.1 F.1.2.1 ((F.1.2.2 : Int), [])) d F.2.1) (F.2.2.1.all (fun col => gcf env fx t c i (Int.neg lo) hi (gnum env mem F.1.1 F.1.2.1 ((F.1.2.2 : Int), [])) d col)) false)) false
theorem gfre_ok {fam : Lean.RArray (Nat × afam)} (hT : gfT tyt fam) {env : aenv} {fx : List ae} {mem : List am} {gh : List gho} {g : cg} {ρ : Nat → Int} (hC : coR h0 tyt GS env fx mem gh g ρ) {t : Nat} {c i : ae} {f d : Nat} {F : afam} (hF : xg fam f = some F) {k j : Nat} {z : Int} (hc : ev ρ c = (k : Int)) (hi : ev ρ i = (j : Int)) (ht : xg tyt k = some t) (hR : gRI F d g) (h : gfre env fx mem t c i F d = true) : gRI F d (cup g k j z) := by
  unfold gfre at h
  obtain ⟨h1, h⟩ := xcnb h
  obtain ⟨t1, t2, t3⟩ := hT f F hF
  cases hu : eu env i with
  | none => rw [hu] at h; cases h
  | some hi' =>
    rw [hu] at h
    dsimp only at h
    rw [efrc_eq] at h
    cases hl : eu env (escl i (-1)) with
    | none => rw [hl] at h; cases h
    | some lo =>
      rw [hl] at h
      dsimp only at h
      obtain ⟨h2, h3⟩ := xcnb h
      have b1 := eu_ok hC.1 hu
      have b2 := eu_ok hC.1 hl
      rw [escl_ev] at b2
      have hNn : ∀ e, gnum env mem F.1.1 F.1.2.1 ((F.1.2.2 : Int), []) = some e → g F.1.2.1 F.1.2.2 = ev ρ e := fun e he => by
        obtain ⟨jn, n1, n2, -⟩ := gnum_ok hC he
        rw [evc] at n1
        have : jn = F.1.2.2 := by omega
        rw [this] at n2
        exact n2
      have hNk : ¬ (F.1.2.1 = k ∧ F.1.2.2 = j) := by
        intro ⟨e1, e2⟩
        have et : F.1.1 = t := by rw [e1] at t1; exact Option.some.inj (t1.symm.trans ht)
        rw [xnb1 et] at h1
        simp only [cond_true] at h1
        rcases xcnt h1 with q | q
        · have := ene_ok hC.1 q
          rw [hc, evc] at this
          exact this (by omega)
        · have := ene_ok hC.1 q
          rw [hi, evc] at this
          exact this (by omega)
      have cupn : ∀ k' j' : Nat, ¬ (k' = k ∧ j' = j) → cup g k j z k' j' = g k' j' := fun k' j' hn => by unfold cup; rw [if_neg hn]
      have hb1 : Int.neg lo ≤ (j : Int) := by show -lo ≤ _; omega
      refine gRI_keep hR (cupn _ _ hNk) (fun r hr => ⟨cupn _ _ ?_, fun col hcol => cupn _ _ ?_⟩)
      · exact gcf_ok hC.1 hC.2.1 hc hi hb1 (by omega) ht t2 hNn hR.1 h2 r hr
      · exact gcf_ok hC.1 hC.2.1 hc hi hb1 (by omega) ht (t3 col hcol) hNn hR.1 (List.all_eq_true.mp h3 col hcol) r hr
end Gho2
end
section
/-! Ghosts: stores, writes, copies -/
section Gho3
variable {h0 : xheap} {tyt : Lean.RArray (Nat × Nat)} {fam : Lean.RArray (Nat × afam)} {tAT AT : Nat} {sv : Nat → Int32} {el : Nat → Nat} {π : Int}
/-- the number of rows lies beside the rows -/
def gfN (fam : Lean.RArray (Nat × afam)) : Prop := ∀ (f : Nat) (F : afam), xg fam f = some F → (F.2.1.2.1 ≠ F.1.2.1 ∨ F.1.2.2 < F.2.1.2.2.1) ∧ ∀ col ∈ F.2.2.1, col.2.1 ≠ F.1.2.1 ∨ F.1.2.2 < col.2.2.1
noncomputable def ghs1 (fam : Lean.RArray (Nat × afam)) (tAT AT : Nat) (env : aenv) (fx : List ae) (mem : List am) (t : Nat) (c i : ae) (v : av) (x : gho) : Option gho :=
  match x.1 with
  | 1 => (match xg fam x.2.1 with
    | none => none
    | some F => cond (cond (Nat.beq F.1.1 t) (cond (eeqb c ((F.1.2.1 : Int), [])) (eeqb i ((F.1.2.2 : Int), [])) false) false)
        (match gnum env mem F.1.1 F.1.2.1 ((F.1.2.2 : Int), []) with
          | none => none
          | some n => cond (cond (Nat.beq x.2.2.1 0) (cond (eeq env v.2.2 (eadc n 1)) (elef env fx 2 (eadc v.2.2 (-60))) false) false) (some (1, x.2.1, 1, x.2.2.2)) none)
        (cond (gfre env fx mem t c i F x.2.2.1) (some x) none))
  | 2 => cond (Nat.beq t tAT) (match eu env i with
    | none => none
    | some hi => match eu env (escl i (-1)) with
      | none => none
      | some lo => match eu env x.2.2.2 with
        | none => none
        | some u => cond (cond (zlt hi (x.2.2.1 : Int)) true (zle (Int.add (x.2.2.1 : Int) u) (Int.neg lo)))
            (cond (eeq env i (eadc x.2.2.2 (x.2.1 : Int))) (match gnum env mem tAT AT (eadc x.2.2.2 (x.2.2.1 : Int)) with
              | none => none
              | some w => cond (eeq env w v.2.2) (some (2, x.2.1, x.2.2.1, eadc x.2.2.2 1)) none)
              (cond (cond (zlt hi (x.2.1 : Int)) true (zle (Int.add (x.2.1 : Int) u) (Int.neg lo))) (some x) none)) none) (some x)
  | 3 => cond (ene env c ((x.2.1 : Int), [])) (cond (ene env c ((x.2.2.1 : Int), [])) (some x) none) none
  | 4 => cond (ene env c ((x.2.1 : Int), [])) (some x) (cond (eeqb c ((x.2.1 : Int), [])) (match gnum env mem t x.2.1 i with
      | none => none
      | some o => cond (cond (elef env fx 2 (escl o (-1))) (cond (elef env fx 2 (escl v.2.2 (-1))) (elef env fx 2 (eadc i (Int.add 1 (Int.neg (x.2.2.1 : Int))))) false) false) (some (4, x.2.1, x.2.2.1, eadd (eadd x.2.2.2 v.2.2 1) o (-1))) none) none)
  | 50 => some x
  | 51 => some x
  | _ => none
noncomputable def ghsi (fam : Lean.RArray (Nat × afam)) (fids : List Nat) (env : aenv) (fx : List ae) (t : Nat) (c i : ae) (v : av) : List gho :=
  fids.filterMap (fun f => match xg fam f with
    | none => none
    | some F => cond (cond (Nat.beq F.1.1 t) (cond (eeqb c ((F.1.2.1 : Int), [])) (cond (eeqb i ((F.1.2.2 : Int), [])) (elef env fx 2 v.2.2) false) false) false) (some (1, f, 0, (0, []))) none)
noncomputable def gHS (fam : Lean.RArray (Nat × afam)) (fids : List Nat) (tAT AT : Nat) (env : aenv) (fx : List ae) (mem : List am) (gh : List gho) (t : Nat) (c i : ae) (v : av) : List gho :=
  gh.filterMap (ghs1 fam tAT AT env fx mem t c i v) ++ ghsi fam fids env fx t c i v
theorem cup_at {g : cg} {k j : Nat} {z : Int} : cup g k j z k j = z := by unfold cup; rw [if_pos ⟨rfl, rfl⟩]
theorem cup_ne {g : cg} {k j k' j' : Nat} {z : Int} (h : ¬ (k' = k ∧ j' = j)) : cup g k j z k' j' = g k' j' := by unfold cup; rw [if_neg h]
theorem gHS_ok (hT : gfT tyt fam) (hN : gfN fam) (hAT : ∀ k, xg tyt k = some tAT → k = AT) (hAT2 : xg tyt AT = some tAT) {fids : List Nat} : aHS h0 tyt (aGSd sv el (gGH fam AT π)) (gHS fam fids tAT AT) := by
  intro env fx mem gh g ρ t c i v k j hC hc hi ht hcat x hx
  rcases List.mem_append.mp hx with hx | hx
  · obtain ⟨x0, hx0, h⟩ := List.mem_filterMap.mp hx
    have hg := hC.2.2.2 x0 hx0
    obtain ⟨xk, xa, xb, xe⟩ := x0
    unfold ghs1 at h
    dsimp only at h
    split at h
    · have hg : ∀ F, xg fam xa = some F → gRI F xb g := hg
      cases hF : xg fam xa with
      | none => rw [hF] at h; cases h
      | some F =>
        rw [hF] at h
        dsimp only at h
        have hR := hg F hF
        cases h1 : cond (Nat.beq F.1.1 t) (cond (eeqb c ((F.1.2.1 : Int), [])) (eeqb i ((F.1.2.2 : Int), [])) false) false with
        | false =>
          rw [h1] at h
          obtain ⟨h2, h3⟩ := xcnd h
          have e : (1, xa, xb, xe) = x := Option.some.inj h3
          subst e
          intro F' hF'
          have e2 : F' = F := Option.some.inj (hF'.symm.trans hF)
          subst e2
          exact gfre_ok hT hC hF hc hi ht hR h2
        | true =>
          rw [h1] at h
          simp only [cond_true] at h
          obtain ⟨-, h1⟩ := xcnb h1
          obtain ⟨a2, a3⟩ := xcnb h1
          have ek : k = F.1.2.1 := by have := eeqb_ok a2; rw [this, evc] at hc; omega
          have ej : j = F.1.2.2 := by have := eeqb_ok a3; rw [this, evc] at hi; omega
          cases hn : gnum env mem F.1.1 F.1.2.1 ((F.1.2.2 : Int), []) with
          | none => rw [hn] at h; cases h
          | some n =>
            rw [hn] at h
            obtain ⟨h2, h3⟩ := xcnd h
            obtain ⟨b1, h2⟩ := xcnb h2
            obtain ⟨b2, b3⟩ := xcnb h2
            have e : (1, xa, 1, xe) = x := Option.some.inj h3
            subst e
            have b1 : xb = 0 := xeqb b1
            subst b1
            have b2 := eeq_ok hC.1 b2
            rw [eadc_ev] at b2
            have b3 := elef_ok hC.1 hC.2.1 2 _ b3
            rw [eadc_ev] at b3
            obtain ⟨jn, n1, n2, -⟩ := gnum_ok hC hn
            rw [evc] at n1
            have ejn : jn = F.1.2.2 := by omega
            rw [ejn] at n2
            intro F' hF'
            have e2 : F' = F := Option.some.inj (hF'.symm.trans hF)
            subst e2
            subst ek; subst ej
            obtain ⟨m1, m2⟩ := hN xa F' hF
            have hself : cup g F'.1.2.1 F'.1.2.2 (ev ρ v.2.2) F'.1.2.1 F'.1.2.2 = ev ρ v.2.2 := cup_at
            refine ⟨by rw [hself]; omega, fun r hr q hq q1 q2 cc hcc => ?_⟩
            rw [hself] at hr
            have hr : (r : Int) < ev ρ v.2.2 - 1 := hr
            have f1 : ∀ col : afc, (col.2.1 ≠ F'.1.2.1 ∨ F'.1.2.2 < col.2.2.1) → cup g F'.1.2.1 F'.1.2.2 (ev ρ v.2.2) col.2.1 (col.2.2.1 + col.2.2.2 * r) = g col.2.1 (col.2.2.1 + col.2.2.2 * r) := fun col hcol => cup_ne (fun z => by
              rcases hcol with w | w
              · exact w z.1
              · have := z.2; omega)
            rw [f1 _ m1] at q1 q2
            rw [f1 cc (m2 cc (agt_mem hcc))]
            exact hR.2 r (by rw [n2]; omega) q hq q1 q2 cc hcc
    · have hg : ∀ j : Nat, (j : Int) < ev ρ xe → g AT (xa + j) = g AT (xb + j) := hg
      cases h1 : Nat.beq t tAT with
      | false =>
        rw [h1] at h
        have e : (2, xa, xb, xe) = x := Option.some.inj h
        subst e
        show ∀ j' : Nat, (j' : Int) < ev ρ xe → cup g k j (ev ρ v.2.2) AT (xa + j') = cup g k j (ev ρ v.2.2) AT (xb + j')
        intro j' hj'
        by_cases hkA : AT = k
        · subst hkA
          have e3 : t = tAT := Option.some.inj (ht.symm.trans hAT2)
          rw [xnb1 e3] at h1
          cases h1
        · rw [cup_ne (fun z => hkA z.1), cup_ne (fun z => hkA z.1)]
          exact hg j' hj'
      | true =>
        rw [h1] at h
        simp only [cond_true] at h
        have ekA : k = AT := hAT k (by rw [ht]; exact congrArg some (xeqb h1))
        subst ekA
        cases hu : eu env i with
        | none => rw [hu] at h; cases h
        | some hi' =>
          rw [hu] at h
          dsimp only at h
          cases hl : eu env (escl i (-1)) with
          | none => rw [hl] at h; cases h
          | some lo =>
            rw [hl] at h
            dsimp only at h
            cases hE : eu env xe with
            | none => rw [hE] at h; cases h
            | some u =>
              rw [hE] at h
              dsimp only at h
              obtain ⟨h2, h⟩ := xcnd h
              have b1 := eu_ok hC.1 hu
              have b2 := eu_ok hC.1 hl
              rw [escl_ev] at b2
              have b3 := eu_ok hC.1 hE
              have hsrc : ∀ j' : Nat, (j' : Int) < ev ρ xe → xb + j' ≠ j := by
                intro j' hj' e
                rcases xcnt h2 with q | q
                · have := zlt_iff.mp q; omega
                · have q : (xb : Int) + u ≤ -lo := zle_iff.mp q
                  omega
              cases h3 : eeq env i (eadc xe (xa : Int)) with
              | true =>
                rw [h3] at h
                simp only [cond_true] at h
                cases hw : gnum env mem tAT k (eadc xe (xb : Int)) with
                | none => rw [hw] at h; cases h
                | some w =>
                  rw [hw] at h
                  obtain ⟨h4, h5⟩ := xcnd h
                  have e : (2, xa, xb, eadc xe 1) = x := Option.some.inj h5
                  subst e
                  have c1 := eeq_ok hC.1 h3
                  rw [eadc_ev, hi] at c1
                  have c2 := eeq_ok hC.1 h4
                  obtain ⟨jw, w1, w2, -⟩ := gnum_ok hC hw
                  rw [eadc_ev] at w1
                  show ∀ j' : Nat, (j' : Int) < ev ρ (eadc xe 1) → cup g k j (ev ρ v.2.2) k (xa + j') = cup g k j (ev ρ v.2.2) k (xb + j')
                  intro j' hj'
                  rw [eadc_ev] at hj'
                  by_cases hlt : (j' : Int) < ev ρ xe
                  · rw [cup_ne (fun z => by have := z.2; omega), cup_ne (fun z => hsrc j' hlt z.2)]
                    exact hg j' hlt
                  · have e1 : xa + j' = j := by omega
                    have e2 : xb + j' = jw := by omega
                    rw [e1, cup_at, e2]
                    by_cases e3 : jw = j
                    · rw [e3, cup_at]
                    · rw [cup_ne (fun z => e3 z.2), w2, c2]
              | false =>
                rw [h3] at h
                simp only [cond_false] at h
                obtain ⟨h4, h5⟩ := xcnd h
                have e : (2, xa, xb, xe) = x := Option.some.inj h5
                subst e
                show ∀ j' : Nat, (j' : Int) < ev ρ xe → cup g k j (ev ρ v.2.2) k (xa + j') = cup g k j (ev ρ v.2.2) k (xb + j')
                intro j' hj'
                have hdst : xa + j' ≠ j := by
                  intro e
                  rcases xcnt h4 with q | q
                  · have := zlt_iff.mp q; omega
                  · have q : (xa : Int) + u ≤ -lo := zle_iff.mp q
                    omega
                rw [cup_ne (fun z => hdst z.2), cup_ne (fun z => hsrc j' hj' z.2)]
                exact hg j' hj'
    · have hg : ∀ j : Nat, (j : Int) < ev ρ xe → g xa j = g xb j := hg
      obtain ⟨h1, h⟩ := xcnd h
      obtain ⟨h2, h3⟩ := xcnd h
      have e : (3, xa, xb, xe) = x := Option.some.inj h3
      subst e
      have n1 := ene_ok hC.1 h1
      have n2 := ene_ok hC.1 h2
      rw [hc, evc] at n1 n2
      show ∀ j' : Nat, (j' : Int) < ev ρ xe → cup g k j (ev ρ v.2.2) xa j' = cup g k j (ev ρ v.2.2) xb j'
      intro j' hj'
      rw [cup_ne (fun z => n1 (by omega)), cup_ne (fun z => n2 (by omega))]
      exact hg j' hj'
    · have hg : psum g xa xb = π + ev ρ xe := hg
      cases h1 : ene env c ((xa : Int), []) with
      | true =>
        rw [h1] at h
        have e : (4, xa, xb, xe) = x := Option.some.inj h
        subst e
        have n1 := ene_ok hC.1 h1
        rw [hc, evc] at n1
        show psum (cup g k j (ev ρ v.2.2)) xa xb = π + ev ρ xe
        rw [← hg]
        exact psum_cg (fun j' hj' => cup_ne (fun z => n1 (by omega)))
      | false =>
        rw [h1] at h
        simp only [cond_false] at h
        obtain ⟨h2, h⟩ := xcnd h
        have ek : k = xa := by have := eeqb_ok h2; rw [this, evc] at hc; omega
        subst ek
        cases ho : gnum env mem t k i with
        | none => rw [ho] at h; cases h
        | some o =>
          rw [ho] at h
          obtain ⟨h3, h4⟩ := xcnd h
          have e : (4, k, xb, eadd (eadd xe v.2.2 1) o (-1)) = x := Option.some.inj h4
          subst e
          obtain ⟨h5, h3⟩ := xcnb h3
          obtain ⟨h6, h7⟩ := xcnb h3
          have h5 := elef_ok hC.1 hC.2.1 2 _ h5
          have h6 := elef_ok hC.1 hC.2.1 2 _ h6
          have h7 := elef_ok hC.1 hC.2.1 2 _ h7
          rw [escl_ev] at h5 h6
          rw [eadc_ev, hi] at h7
          have h7 : (j : Int) + (1 + -(xb : Int)) ≤ 0 := h7
          obtain ⟨jo, o1, o2, -⟩ := gnum_ok hC ho
          have ej : jo = j := by omega
          subst ej
          show psum (cup g k jo (ev ρ v.2.2)) k xb = π + ev ρ (eadd (eadd xe v.2.2 1) o (-1))
          rw [psum_up (by omega) (by omega) (by omega), eadd_ev, eadd_ev, hg, o2]
          omega
    · have e : (50, xa, xb, xe) = x := Option.some.inj h
      subst e
      exact hg
    · have e : (51, xa, xb, xe) = x := Option.some.inj h
      subst e
      exact hg
    · cases h
  · obtain ⟨f, hf, h⟩ := List.mem_filterMap.mp hx
    cases hF : xg fam f with
    | none => rw [hF] at h; cases h
    | some F =>
      rw [hF] at h
      obtain ⟨h1, h2⟩ := xcnd h
      have e : (1, f, 0, (0, [])) = x := Option.some.inj h2
      subst e
      obtain ⟨-, h1⟩ := xcnb h1
      obtain ⟨a2, h1⟩ := xcnb h1
      obtain ⟨a3, a4⟩ := xcnb h1
      have ek : k = F.1.2.1 := by have := eeqb_ok a2; rw [this, evc] at hc; omega
      have ej : j = F.1.2.2 := by have := eeqb_ok a3; rw [this, evc] at hi; omega
      have a4 := elef_ok hC.1 hC.2.1 2 _ a4
      intro F' hF'
      have e2 : F' = F := Option.some.inj (hF'.symm.trans hF)
      subst e2
      subst ek; subst ej
      refine ⟨by rw [cup_at]; omega, fun r hr => ?_⟩
      rw [cup_at] at hr
      exact absurd hr (by omega)
end Gho3
end
