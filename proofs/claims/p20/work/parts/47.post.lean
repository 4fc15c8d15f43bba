/-! The ends of a method that was called -/
noncomputable def anew : List (Int × Int) → aenv → Nat → (List ae → aenv → Nat → Bool) → Bool
  | [], env, ne, k => k [] env ne
  | i :: l, env, ne, k => afrs i.1 i.2 env ne (fun env' ne' => anew l env' ne' (fun σ env ne2 => k (esym ne :: σ) env ne2))
def asy : Nat → Nat → List ae
  | _, 0 => []
  | s, n + 1 => esym s :: asy (s + 1) n
noncomputable def aasl : List ae → aenv → List ae → (aenv → List ae → Bool) → Bool
  | [], env, fx, k => k env fx
  | e :: l, env, fx, k => efrc e (fun e => aas env fx e (fun env fx => aasl l env fx k))
def aivl : List ae → List (Int × Int) → List ae
  | e :: σ, i :: l => eadc e (Int.neg i.2) :: eadd (i.1, []) e (-1) :: aivl σ l
  | _, _ => []
def adrp {α : Type} : Nat → List α → List α
  | 0, l => l
  | _ + 1, [] => []
  | n + 1, _ :: l => adrp n l
noncomputable def amsb (σ : List ae) : List am → (List am → Bool) → Bool
  | [], k => k []
  | m :: l, k => efrc (asub σ m.2.1) (fun c => efrc (asub σ m.2.2.1) (fun i => efrc (asub σ m.2.2.2.2.2) (fun e => amsb σ l (fun r => k ((m.1, c, i, (m.2.2.2.1, m.2.2.2.2.1, e)) :: r)))))
noncomputable def agsb (σ : List ae) : List gho → (List gho → Bool) → Bool
  | [], k => k []
  | x :: l, k => efrc (asub σ x.2.2.2) (fun e => agsb σ l (fun r => k ((x.1, x.2.1, x.2.2.1, e) :: r)))
noncomputable def apst (HW : aenv → List ae → List am → List gho → List awr → List gho) (wr : List awr) (P : apat) (σ : List ae) (mem : List am) (env : aenv) (fx : List ae) (gh : List gho) (ne : Nat) (k : Option av → List am → aenv → List ae → List gho → Nat → Bool) : Bool :=
  cond (σ.all (fun e => ewf ne e.2)) (anew (adrp σ.length P.2.2.2.2.1) env ne (fun nw env ne' =>
    aasl (aivl σ P.2.2.2.2.1 ++ P.2.2.2.2.2.1.map (asub (σ ++ nw))) env fx (fun env fx => aprp fx env (fun env => akwf env wr mem (fun r => amsb (σ ++ nw) P.2.2.2.1 (fun m => agsb (σ ++ nw) P.2.2.2.2.2.2.1 (fun gs =>
      match P.2.2.1 with
      | none => k none (m ++ r) env fx (gs ++ HW env fx mem gh wr) ne'
      | some a => efrc (asub (σ ++ nw) a.2.2) (fun e => k (some (a.1, a.2.1, e)) (m ++ r) env fx (gs ++ HW env fx mem gh wr) ne')))))))) false
theorem anew_ok : ∀ (l : List (Int × Int)) (env : aenv) (ne : Nat) (k : List ae → aenv → Nat → Bool), anew l env ne k = true → ∃ env', k (asy ne l.length) env' (ne + l.length) = true ∧ ∀ τ : Nat → Int, envR env τ → (∀ (i : Nat) (x : Int × Int), agt l i = some x → x.1 ≤ τ (ne + i) ∧ τ (ne + i) ≤ x.2) → envR env' τ
  | [], env, ne, k, h => ⟨env, h, fun _ h _ => h⟩
  | i :: l, env, ne, k, h => by
    unfold anew at h
    rw [afrs_eq] at h
    obtain ⟨env', h1, h2⟩ := anew_ok l _ _ _ h
    refine ⟨env', ?_, fun τ hE hb => ?_⟩
    · have e : ne + (i :: l).length = ne + 1 + l.length := by simp; omega
      rw [e]
      exact h1
    · refine h2 τ (envR_set hE (hb 0 i rfl).1 (hb 0 i rfl).2) (fun s x hs => ?_)
      have := hb (s + 1) x hs
      rw [show ne + 1 + s = ne + (s + 1) by omega]
      exact this
theorem asy_get : ∀ (n s i : Nat), i < n → agt (asy s n) i = some (esym (s + i))
  | 0, _, i, h => absurd h (Nat.not_lt_zero i)
  | n + 1, s, 0, _ => rfl
  | n + 1, s, i + 1, h => by
    show agt (asy (s + 1) n) i = _
    rw [asy_get n (s + 1) i (by omega), show s + 1 + i = s + (i + 1) by omega]
theorem agt_app {α : Type} : ∀ (a b : List α) (s : Nat), agt (a ++ b) s = if s < a.length then agt a s else agt b (s - a.length)
  | [], b, s => by simp
  | x :: a, b, 0 => by simp [agt]
  | x :: a, b, s + 1 => by
    show agt (a ++ b) s = _
    rw [agt_app a b s]
    simp only [List.length_cons]
    by_cases h : s < a.length
    · rw [if_pos h, if_pos (by omega)]; rfl
    · rw [if_neg h, if_neg (by omega), show s + 1 - (a.length + 1) = s - a.length by omega]
theorem agt_drp {α : Type} : ∀ (n : Nat) (l : List α) (i : Nat), agt (adrp n l) i = agt l (n + i)
  | 0, l, i => by rw [Nat.zero_add]; rfl
  | n + 1, [], i => by cases i <;> simp [adrp, agt]
  | n + 1, _ :: l, i => by
    show agt (adrp n l) i = _
    rw [agt_drp n l i, show n + 1 + i = (n + i) + 1 by omega]
    rfl
theorem adrp_len {α : Type} : ∀ (n : Nat) (l : List α), (adrp n l).length = l.length - n
  | 0, l => by simp [adrp]
  | n + 1, [] => by simp [adrp]
  | n + 1, _ :: l => by
    show (adrp n l).length = _
    rw [adrp_len n l]
    simp
theorem agt_some {α : Type} : ∀ {l : List α} {i : Nat}, i < l.length → ∃ x, agt l i = some x
  | [], i, h => absurd h (Nat.not_lt_zero i)
  | x :: _, 0, _ => ⟨x, rfl⟩
  | _ :: l, i + 1, h => agt_some (l := l) (i := i) (by simp at h; omega)
theorem agt_mem {α : Type} : ∀ {l : List α} {i : Nat} {x : α}, agt l i = some x → x ∈ l
  | [], _, _, h => by cases h
  | y :: l, 0, x, h => by
    have : y = x := Option.some.inj h
    rw [this]; exact List.mem_cons_self
  | _ :: l, i + 1, x, h => List.mem_cons_of_mem _ (agt_mem (l := l) (i := i) h)
theorem aasl_ok {P : (Nat → Int) → Prop} (hP : ∃ ρ, P ρ) : ∀ (l : List ae) (env : aenv) (fx : List ae) (k : aenv → List ae → Bool), aasl l env fx k = true → (∀ ρ, P ρ → envR env ρ ∧ fxR fx ρ ∧ ∀ e ∈ l, ev ρ e ≤ 0) → ∃ env' fx', k env' fx' = true ∧ ∀ ρ, P ρ → envR env' ρ ∧ fxR fx' ρ
  | [], env, fx, k, h, hR => ⟨env, fx, h, fun ρ p => ⟨(hR ρ p).1, (hR ρ p).2.1⟩⟩
  | e :: l, env, fx, k, h, hR => by
    unfold aasl at h
    rw [efrc_eq] at h
    obtain ⟨env1, fx1, h1, h2⟩ := aas_ok hP h (fun ρ p => ⟨(hR ρ p).1, (hR ρ p).2.1, (hR ρ p).2.2 e List.mem_cons_self⟩)
    exact aasl_ok hP l env1 fx1 k h1 (fun ρ p => ⟨(h2 ρ p).1, (h2 ρ p).2, fun x hx => (hR ρ p).2.2 x (List.mem_cons_of_mem _ hx)⟩)
theorem aivl_ok {ρ : Nat → Int} : ∀ (σ : List ae) (l : List (Int × Int)), (∀ (s : Nat) (i : Int × Int), s < σ.length → agt l s = some i → i.1 ≤ ev ρ (asgt σ s) ∧ ev ρ (asgt σ s) ≤ i.2) → ∀ e ∈ aivl σ l, ev ρ e ≤ 0
  | [], _, _, e, he => absurd he List.not_mem_nil
  | _ :: _, [], _, e, he => absurd he List.not_mem_nil
  | x :: σ, i :: l, h, e, he => by
    have h0 := h 0 i (by simp) rfl
    have h0a : i.1 ≤ ev ρ x := h0.1
    have h0b : ev ρ x ≤ i.2 := h0.2
    rcases List.mem_cons.mp he with q | he
    · rw [q, eadc_ev]
      show ev ρ x + -i.2 ≤ 0
      omega
    · rcases List.mem_cons.mp he with q | he
      · rw [q, eadd_ev]
        have : ev ρ ((i.1, []) : ae) = i.1 := ecst_ev ρ i.1
        rw [this]
        omega
      · exact aivl_ok σ l (fun s j hs hj => h (s + 1) j (by simp; omega) hj) e he
theorem amsb_eq (σ : List ae) : ∀ (l : List am) (k : List am → Bool), amsb σ l k = k (l.map (fun m => (m.1, asub σ m.2.1, asub σ m.2.2.1, (m.2.2.2.1, m.2.2.2.2.1, asub σ m.2.2.2.2.2))))
  | [], _ => rfl
  | m :: l, k => by
    unfold amsb
    rw [efrc_eq, efrc_eq, efrc_eq, amsb_eq σ l]
    rfl
theorem agsb_eq (σ : List ae) : ∀ (l : List gho) (k : List gho → Bool), agsb σ l k = k (l.map (fun x => (x.1, x.2.1, x.2.2.1, asub σ x.2.2.2)))
  | [], _ => rfl
  | x :: l, k => by
    unfold agsb
    rw [efrc_eq, agsb_eq σ l]
    rfl
theorem avR_sub {tyt : Lean.RArray (Nat × Nat)} {τ : Nat → Int} {σ : List ae} : ∀ {a : av} {v : cv}, avR tyt (asρ τ σ) a v → avR tyt τ (a.1, a.2.1, asub σ a.2.2) v := by
  intro a v h
  obtain ⟨t, ty, ex⟩ := a
  have e : ev τ (asub σ ex) = ev (asρ τ σ) ex := asub_ev τ σ ex
  match t, h with
  | 0, h => exact ⟨by show v = (0, ev τ (asub σ ex)); rw [e]; exact h.1, by show cI (ev τ (asub σ ex)); rw [e]; exact h.2⟩
  | 1, h => exact h.elim
  | 2, h => exact ⟨by show v = (2, ev τ (asub σ ex)); rw [e]; exact h.1, by show cL (ev τ (asub σ ex)); rw [e]; exact h.2⟩
  | 3, h => exact h.elim
  | 4, h =>
    obtain ⟨k, k1, k2, k3⟩ := h
    exact ⟨k, k1, e.trans k2, k3⟩
  | 5, h => exact h
  | 6, h => exact h
  | 7, h => exact h.elim
  | 8, h => exact h.elim
  | 9, h =>
    show v = (0, csgn (ev τ (asub σ ex)))
    rw [e]; exact h
  | 10, h => exact h
  | _ + 11, h => exact h.elim
section Post
variable {h0 : xheap} {tyt : Lean.RArray (Nat × Nat)} {sv : Nat → Int32} {el : Nat → Nat} {GH : Nat → Nat → Nat → Int → cg → Prop} {HW : aenv → List ae → List am → List gho → List awr → List gho}
def aHW (h0 : xheap) (tyt : Lean.RArray (Nat × Nat)) (GS : gho → (Nat → Int) → cg → Prop) (HW : aenv → List ae → List am → List gho → List awr → List gho) : Prop := ∀ (env : aenv) (fx : List ae) (mem : List am) (gh : List gho) (wr : List awr) (g g' : cg) (ρ : Nat → Int), coR h0 tyt GS env fx mem gh g ρ → (∀ k j : Nat, ¬ awc tyt wr k j → g' k j = g k j) → ghR GS (HW env fx mem gh wr) ρ g'
theorem apst_ok (hHW : aHW h0 tyt (aGSd sv el GH) HW) {wr : List awr} {P : apat} {σ : List ae} {mem : List am} {env : aenv} {fx : List ae} {gh : List gho} {ne : Nat} {k : Option av → List am → aenv → List ae → List gho → Nat → Bool} {ρ ρ' : Nat → Int} {g g' : cg} {rv : Option cv} (hw : awfP P = true) (hgs : ∀ x ∈ P.2.2.2.2.2.2.1, x.1 ≠ 50 ∧ x.1 ≠ 51) (hC : aC ne ρ (coR h0 tyt (aGSd sv el GH) env fx mem gh g)) (hp : σ.length ≤ P.2.2.2.2.1.length) (ha : aag σ.length (asρ ρ σ) ρ') (hpat : patR h0 tyt (aGSd sv el GH) P ρ' g' [] [] rv) (hg : ∀ k j : Nat, ¬ awc tyt wr k j → g' k j = g k j)
    (h : apst HW wr P σ mem env fx gh ne k = true) : ∃ (rva : Option av) (mem' : List am) (env' : aenv) (fx' : List ae) (gh' : List gho) (ne' : Nat) (ρ1 : Nat → Int), k rva mem' env' fx' gh' ne' = true ∧ ne ≤ ne' ∧ aag ne ρ ρ1 ∧ aC ne' ρ1 (coR h0 tyt (aGSd sv el GH) env' fx' mem' gh' g') ∧ aC ne' ρ1 (fun τ => rvR tyt τ rva rv) := by
  unfold apst at h
  obtain ⟨hwf, h⟩ := xcnb h
  obtain ⟨env1, h1, h2⟩ := anew_ok _ _ _ _ h
  rw [adrp_len] at h1
  generalize hn : P.2.2.2.2.1.length - σ.length = n at h1
  let ρ1 : Nat → Int := fun s => if s < ne then ρ s else ρ' (σ.length + (s - ne))
  have hag : aag ne ρ ρ1 := fun s hs => by show (if s < ne then ρ s else _) = _; rw [if_pos hs]
  have key : ∀ τ, aag (ne + n) ρ1 τ → aag P.2.2.2.2.1.length ρ' (asρ τ (σ ++ asy ne n)) := by
    intro τ hτ s hs
    show ev τ (asgt (σ ++ asy ne n) s) = ρ' s
    unfold asgt
    rw [agt_app]
    by_cases hsp : s < σ.length
    · rw [if_pos hsp]
      obtain ⟨e, he⟩ := agt_some hsp
      rw [he]
      dsimp only
      have h3 := ewf_ev (aag.tr (by omega) hag hτ) (List.all_eq_true.mp hwf e (agt_mem he))
      have h4 := ha s hsp
      unfold asρ asgt at h4
      rw [he] at h4
      dsimp only at h4
      rw [h3, h4]
    · rw [if_neg hsp, asy_get n ne (s - σ.length) (by omega)]
      dsimp only
      rw [esym_ev, hτ _ (by omega)]
      show (if ne + (s - σ.length) < ne then _ else ρ' (σ.length + (ne + (s - σ.length) - ne))) = _
      rw [if_neg (by omega)]
      congr 1
      omega
  have hpτ : ∀ τ, aag (ne + n) ρ1 τ → patR h0 tyt (aGSd sv el GH) P (asρ τ (σ ++ asy ne n)) g' [] [] rv := fun τ hτ => patR_ag hw (key τ hτ) hpat
  have hCτ : ∀ τ, aag (ne + n) ρ1 τ → coR h0 tyt (aGSd sv el GH) env fx mem gh g τ := fun τ hτ => hC τ (aag.tr (by omega) hag hτ)
  have hE1 : ∀ τ, aag (ne + n) ρ1 τ → envR env1 τ := by
    intro τ hτ
    refine h2 τ (hCτ τ hτ).1 (fun i x hx => ?_)
    rw [agt_drp] at hx
    have := hpat.2.2.2.2.1 _ x hx
    have hl := agt_lt hx
    rw [hτ _ (by omega)]
    show x.1 ≤ (if ne + i < ne then ρ (ne + i) else ρ' (σ.length + (ne + i - ne))) ∧ (if ne + i < ne then ρ (ne + i) else ρ' (σ.length + (ne + i - ne))) ≤ x.2
    rw [if_neg (by omega), show σ.length + (ne + i - ne) = σ.length + i by omega]
    exact this
  obtain ⟨env2, fx2, h3, h4⟩ := aasl_ok (P := aag (ne + n) ρ1) ⟨ρ1, aag.rf _ _⟩ _ _ _ _ h1 (fun τ hτ => ⟨hE1 τ hτ, (hCτ τ hτ).2.1, fun e he => by
    rcases List.mem_append.mp he with he | he
    · refine aivl_ok σ _ (fun s i hs hi => ?_) e he
      have h5 := (hpτ τ hτ).2.2.2.2.1 s i hi
      have h6 : asρ τ (σ ++ asy ne n) s = ev τ (asgt σ s) := by
        show ev τ (asgt (σ ++ asy ne n) s) = _
        unfold asgt
        rw [agt_app, if_pos hs]
      rw [h6] at h5
      exact h5
    · obtain ⟨f, hf, e2⟩ := List.mem_map.mp he
      rw [← e2, asub_ev]
      exact (hpτ τ hτ).2.2.2.2.2.1 f hf⟩)
  obtain ⟨env3, h5, h6⟩ := aprp_ok (P := aag (ne + n) ρ1) ⟨ρ1, aag.rf _ _⟩ _ _ _ h3 h4
  obtain ⟨r, e1, e2⟩ := akwf_ok env3 wr mem (fun r => amsb (σ ++ asy ne n) P.2.2.2.1 (fun m => agsb (σ ++ asy ne n) P.2.2.2.2.2.2.1 (fun gs =>
      match P.2.2.1 with
      | none => k none (m ++ r) env3 fx2 (gs ++ HW env3 fx2 mem gh wr) (ne + n)
      | some a => efrc (asub (σ ++ asy ne n) a.2.2) (fun e => k (some (a.1, a.2.1, e)) (m ++ r) env3 fx2 (gs ++ HW env3 fx2 mem gh wr) (ne + n)))))
  rw [e1, amsb_eq, agsb_eq] at h5
  have hco : aC (ne + n) ρ1 (coR h0 tyt (aGSd sv el GH) env3 fx2 (P.2.2.2.1.map (fun m => (m.1, asub (σ ++ asy ne n) m.2.1, asub (σ ++ asy ne n) m.2.2.1, (m.2.2.2.1, m.2.2.2.2.1, asub (σ ++ asy ne n) m.2.2.2.2.2))) ++ r) (P.2.2.2.2.2.2.1.map (fun x => (x.1, x.2.1, x.2.2.1, asub (σ ++ asy ne n) x.2.2.2)) ++ HW env3 fx2 mem gh wr) g') := by
    intro τ hτ
    have hc := hCτ τ hτ
    have hE := h6 τ hτ
    refine ⟨hE, (h4 τ hτ).2, fun m hm => ?_, fun x hx => ?_⟩
    · rcases List.mem_append.mp hm with hm | hm
      · obtain ⟨m0, q1, q2⟩ := List.mem_map.mp hm
        rw [← q2]
        obtain ⟨kk, j, v, a1, a2, a3, a4, a5⟩ := (hpτ τ hτ).2.2.2.1 m0 q1
        exact ⟨kk, j, v, (asub_ev _ _ _).trans a1, (asub_ev _ _ _).trans a2, a3, a4, avR_sub a5⟩
      · exact akw_keep hE hg (hc.2.2.1 m (e2 m hm).1) (e2 m hm).2
    · rcases List.mem_append.mp hx with hx | hx
      · obtain ⟨x0, q1, q2⟩ := List.mem_map.mp hx
        rw [← q2]
        have hx0 := hgs x0 q1
        refine aGSd_sub (x := (x0.1, x0.2.1, x0.2.2.1, asub (σ ++ asy ne n) x0.2.2.2)) (ρ := asρ τ (σ ++ asy ne n)) (e := x0.2.2.2) (fun hk => ?_) (asub_ev _ _ _).symm ((hpτ τ hτ).2.2.2.2.2.2 x0 q1)
        rcases hk with q | q
        · exact absurd q hx0.1
        · exact absurd q hx0.2
      · exact hHW env3 fx2 mem gh wr g g' τ ⟨hE, (h4 τ hτ).2, hc.2.2.1, hc.2.2.2⟩ hg x hx
  have hrv : ∀ τ, aag (ne + n) ρ1 τ → rvR tyt (asρ τ (σ ++ asy ne n)) P.2.2.1 rv := fun τ hτ => (hpτ τ hτ).2.2.1
  cases hr : P.2.2.1 with
  | none =>
    rw [hr] at h5 hrv
    refine ⟨_, _, _, _, _, _, ρ1, h5, by omega, hag, hco, fun τ hτ => ?_⟩
    have := hrv τ hτ
    cases rv with
    | none => trivial
    | some v => exact this.elim
  | some a =>
    rw [hr] at h5 hrv
    dsimp only at h5
    rw [efrc_eq] at h5
    refine ⟨_, _, _, _, _, _, ρ1, h5, by omega, hag, hco, fun τ hτ => ?_⟩
    have := hrv τ hτ
    cases rv with
    | none => exact this.elim
    | some v => exact avR_sub this
end Post
