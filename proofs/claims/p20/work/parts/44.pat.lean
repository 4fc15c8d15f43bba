/-! Patterns of states: what holds at a cut, at a start, at an end -/
/-- locals, stack, answer, places, intervals, facts, ghosts, measure -/
abbrev apat : Type := List (Nat × av) × List av × Option av × List am × List (Int × Int) × List ae × List gho × ae
def rvR (tyt : Lean.RArray (Nat × Nat)) (τ : Nat → Int) : Option av → Option cv → Prop
  | none, none => True
  | some a, some v => avR tyt τ a v
  | _, _ => False
def aivR (l : List (Int × Int)) (ρ : Nat → Int) : Prop := ∀ (s : Nat) (i : Int × Int), agt l s = some i → i.1 ≤ ρ s ∧ ρ s ≤ i.2
def patR (h0 : xheap) (tyt : Lean.RArray (Nat × Nat)) (GS : gho → (Nat → Int) → cg → Prop) (P : apat) (ρ : Nat → Int) (g : cg) (lsc : List (Nat × cv)) (stc : List cv) (rv : Option cv) : Prop :=
  lsR tyt ρ P.1 lsc ∧ stR tyt ρ P.2.1 stc ∧ rvR tyt ρ P.2.2.1 rv ∧ amsR h0 tyt ρ g P.2.2.2.1 ∧ aivR P.2.2.2.2.1 ρ ∧ fxR P.2.2.2.2.2.1 ρ ∧ ghR GS P.2.2.2.2.2.2.1 ρ g
/-! substitution -/
def asgt (σ : List ae) (s : Nat) : ae := match agt σ s with
  | none => (0, [])
  | some e => e
def asbl (σ : List ae) : List (Nat × Int) → ae → ae
  | [], acc => acc
  | q :: l, acc => asbl σ l (eadd acc (asgt σ q.1) q.2)
def asub (σ : List ae) (e : ae) : ae := match e.2 with
  | [] => e
  | _ => asbl σ e.2 (e.1, [])
def asρ (ρ : Nat → Int) (σ : List ae) : Nat → Int := fun s => ev ρ (asgt σ s)
theorem asbl_ev (ρ : Nat → Int) (σ : List ae) : ∀ (l : List (Nat × Int)) (acc : ae), ev ρ (asbl σ l acc) = ev ρ acc + evl (asρ ρ σ) l
  | [], acc => by show ev ρ acc = ev ρ acc + 0; omega
  | q :: l, acc => by
    show ev ρ (asbl σ l (eadd acc (asgt σ q.1) q.2)) = ev ρ acc + (q.2 * asρ ρ σ q.1 + evl (asρ ρ σ) l)
    rw [asbl_ev ρ σ l, eadd_ev]
    show ev ρ acc + q.2 * asρ ρ σ q.1 + evl (asρ ρ σ) l = _
    omega
theorem asub_ev (ρ : Nat → Int) (σ : List ae) (e : ae) : ev ρ (asub σ e) = ev (asρ ρ σ) e := by
  unfold asub
  split
  · rename_i hn
    unfold ev
    rw [hn]
    rfl
  · rw [asbl_ev]
    show e.1 + 0 + evl (asρ ρ σ) e.2 = e.1 + evl (asρ ρ σ) e.2
    omega
/-- a value fits a pattern -/
noncomputable def avok (env : aenv) (σ : List ae) (p a : av) : Bool :=
  cond (Nat.beq p.1 a.1) (match p.1 with
    | 0 => eeq env (asub σ p.2.2) a.2.2
    | 2 => eeq env (asub σ p.2.2) a.2.2
    | 4 => cond (Nat.beq p.2.1 a.2.1) (eeq env (asub σ p.2.2) a.2.2) false
    | 5 => true
    | 6 => Nat.beq p.2.1 a.2.1
    | 10 => true
    | _ => false) false
theorem avok_ok {tyt : Lean.RArray (Nat × Nat)} {env : aenv} {ρ : Nat → Int} {σ : List ae} (hE : envR env ρ) : ∀ {p a : av} {v : cv}, avok env σ p a = true → avR tyt ρ a v → avR tyt (asρ ρ σ) p v := by
  intro p a v h ha
  obtain ⟨pt, pty, pe⟩ := p
  obtain ⟨at', aty', ae'⟩ := a
  obtain ⟨h1, h2⟩ := xcnb h
  have h1 : pt = at' := xeqb h1
  subst h1
  have ee : eeq env (asub σ pe) ae' = true → ev (asρ ρ σ) pe = ev ρ ae' := fun q => by rw [← asub_ev]; exact eeq_ok hE q
  match pt, h2, ha with
  | 0, h2, ha =>
    have e := ee h2
    exact ⟨by rw [e]; exact ha.1, by rw [e]; exact ha.2⟩
  | 1, h2, ha => cases h2
  | 2, h2, ha =>
    have e := ee h2
    exact ⟨by rw [e]; exact ha.1, by rw [e]; exact ha.2⟩
  | 3, h2, ha => cases h2
  | 4, h2, ha =>
    obtain ⟨h3, h4⟩ := xcnb (show cond (Nat.beq pty aty') (eeq env (asub σ pe) ae') false = true from h2)
    have h3 : pty = aty' := xeqb h3
    subst h3
    obtain ⟨k, k1, k2, k3⟩ := ha
    exact ⟨k, k1, (ee h4).trans k2, k3⟩
  | 5, h2, ha => exact ha
  | 6, h2, ha =>
    have h3 : pty = aty' := xeqb h2
    subst h3
    exact ha
  | 7, h2, ha => cases h2
  | 8, h2, ha => cases h2
  | 9, h2, ha => cases h2
  | 10, h2, ha => exact ha
  | _ + 11, h2, ha => cases h2
noncomputable def aokS (env : aenv) (σ : List ae) : List av → List av → Bool
  | [], [] => true
  | p :: l, a :: m => cond (avok env σ p a) (aokS env σ l m) false
  | _, _ => false
noncomputable def aokL (env : aenv) (σ : List ae) (ls : List (Nat × av)) : List (Nat × av) → Bool
  | [] => true
  | p :: l => match alk ls p.1 with
    | none => false
    | some a => cond (avok env σ p.2 a) (aokL env σ ls l) false
noncomputable def aokR (env : aenv) (σ : List ae) : Option av → Option av → Bool
  | none, none => true
  | some p, some a => avok env σ p a
  | _, _ => false
noncomputable def aokM (env : aenv) (σ : List ae) (mem : List am) : List am → Bool
  | [] => true
  | m :: l => match amg env m.1 (asub σ m.2.1) (asub σ m.2.2.1) mem with
    | none => false
    | some a => cond (avok env σ m.2.2.2 a) (aokM env σ mem l) false
noncomputable def aokE (env : aenv) (fx : List ae) : List ae → List (Int × Int) → Bool
  | _, [] => true
  | e :: σ, i :: l => cond (efit env fx e i.1 i.2) (aokE env fx σ l) false
  | [], _ :: _ => false
noncomputable def aokF (env : aenv) (fx : List ae) (σ : List ae) : List ae → Bool
  | [] => true
  | f :: l => cond (efrc (asub σ f) (fun x => elef env fx 2 x)) (aokF env fx σ l) false
/-- the first p symbols stand for themselves -/
def aokI : Nat → Nat → List ae → Bool
  | 0, _, _ => true
  | n + 1, s, e :: σ => cond (eeqb e (esym s)) (aokI n (s + 1) σ) false
  | _ + 1, _, [] => false
theorem aokI_ok {ρ : Nat → Int} : ∀ (n s : Nat) (σ : List ae), aokI n s σ = true → ∀ i : Nat, i < n → asρ ρ σ i = ρ (s + i)
  | 0, _, _, _, i, hi => absurd hi (Nat.not_lt_zero i)
  | n + 1, s, [], h, _, _ => by cases h
  | n + 1, s, e :: σ, h, i, hi => by
    obtain ⟨h1, h2⟩ := xcnb (show cond (eeqb e (esym s)) (aokI n (s + 1) σ) false = true from h)
    cases i with
    | zero =>
      show ev ρ e = ρ s
      rw [eeqb_ok h1, esym_ev]
    | succ i =>
      have := aokI_ok (ρ := ρ) n (s + 1) σ h2 i (by omega)
      show asρ ρ σ i = _
      rw [this]
      congr 1
      omega
theorem amg_okT {h0 : xheap} {tyt : Lean.RArray (Nat × Nat)} {env : aenv} {ρ : Nat → Int} {g : cg} (hE : envR env ρ) {t : Nat} {c i : ae} : ∀ {mem : List am} {v : av}, amsR h0 tyt ρ g mem → amg env t c i mem = some v → ∃ (k j : Nat) (w : cv), ev ρ c = (k : Int) ∧ ev ρ i = (j : Int) ∧ cat h0 g k j w ∧ avR tyt ρ v w ∧ xg tyt k = some t
  | [], _, _, h => by cases h
  | m :: l, v, hm, h => by
    have hl : amsR h0 tyt ρ g l := fun x hx => hm x (List.mem_cons_of_mem _ hx)
    have h : cond (Nat.beq m.1 t) (cond (eeq env m.2.1 c) (cond (eeq env m.2.2.1 i) (some m.2.2.2) (amg env t c i l)) (amg env t c i l)) (amg env t c i l) = some v := h
    cases h1 : Nat.beq m.1 t with
    | false => rw [h1] at h; exact amg_okT hE hl h
    | true =>
      rw [h1] at h
      cases h2 : eeq env m.2.1 c with
      | false => rw [h2] at h; exact amg_okT hE hl h
      | true =>
        rw [h2] at h
        cases h3 : eeq env m.2.2.1 i with
        | false => rw [h3] at h; exact amg_okT hE hl h
        | true =>
          rw [h3] at h
          have e : m.2.2.2 = v := Option.some.inj h
          obtain ⟨k, j, w, a1, a2, a3, a4, a5⟩ := hm m List.mem_cons_self
          exact ⟨k, j, w, by rw [← eeq_ok hE h2]; exact a1, by rw [← eeq_ok hE h3]; exact a2, a4, by rw [← e]; exact a5, by rw [← xeqb h1]; exact a3⟩
section Ent
variable {h0 : xheap} {tyt : Lean.RArray (Nat × Nat)} {env : aenv} {fx : List ae} {ρ : Nat → Int} {σ : List ae}
theorem aokS_ok (hE : envR env ρ) : ∀ {p a : List av} {stc : List cv}, aokS env σ p a = true → stR tyt ρ a stc → stR tyt (asρ ρ σ) p stc
  | [], [], [], _, _ => trivial
  | [], [], _ :: _, _, h => h.elim
  | [], _ :: _, _, h, _ => by cases h
  | _ :: _, [], _, h, _ => by cases h
  | _ :: _, _ :: _, [], _, h => h.elim
  | p :: l, a :: m, v :: n, h, k => by
    obtain ⟨h1, h2⟩ := xcnb (show cond (avok env σ p a) (aokS env σ l m) false = true from h)
    exact ⟨avok_ok hE h1 k.1, aokS_ok hE h2 k.2⟩
theorem clk_mem : ∀ {l : List (Nat × cv)} {i : Nat} {v : cv}, clk l i = some v → (i, v) ∈ l
  | [], _, _, h => by cases h
  | q :: l, i, v, h => by
    have h : cond (Nat.beq q.1 i) (some q.2) (clk l i) = some v := h
    cases hb : Nat.beq q.1 i with
    | true =>
      rw [hb] at h
      have e1 := xeqb hb
      have e2 : q.2 = v := Option.some.inj h
      have : q = (i, v) := by rw [← e1, ← e2]
      rw [this]; exact List.mem_cons_self
    | false => rw [hb] at h; exact List.mem_cons_of_mem _ (clk_mem h)
theorem aokL_ok (hE : envR env ρ) {ls : List (Nat × av)} {lsc : List (Nat × cv)} (hl : lsR tyt ρ ls lsc) : ∀ {p : List (Nat × av)}, aokL env σ ls p = true → ∃ lsc', lsR tyt (asρ ρ σ) p lsc' ∧ ∀ q ∈ lsc', q ∈ lsc
  | [], _ => ⟨[], trivial, fun _ h => absurd h List.not_mem_nil⟩
  | p :: l, h => by
    unfold aokL at h
    cases ha : alk ls p.1 with
    | none => rw [ha] at h; cases h
    | some a =>
      rw [ha] at h
      obtain ⟨h1, h2⟩ := xcnb h
      obtain ⟨lsc', k1, k2⟩ := aokL_ok hE hl h2
      obtain ⟨v, e1, e2⟩ := lsR_lk hl ha
      refine ⟨(p.1, v) :: lsc', ⟨rfl, avok_ok hE h1 e2, k1⟩, fun q hq => ?_⟩
      rcases List.mem_cons.mp hq with e | hq
      · rw [e]; exact clk_mem e1
      · exact k2 q hq
theorem aokR_ok (hE : envR env ρ) : ∀ {p a : Option av} {v : Option cv}, aokR env σ p a = true → rvR tyt ρ a v → rvR tyt (asρ ρ σ) p v
  | none, none, none, _, _ => trivial
  | none, none, some _, _, h => h.elim
  | none, some _, _, h, _ => by cases h
  | some _, none, _, h, _ => by cases h
  | some _, some _, none, _, h => h.elim
  | some p, some a, some v, h, k => avok_ok hE h k
theorem aokM_ok (hE : envR env ρ) {g : cg} {mem : List am} (hm : amsR h0 tyt ρ g mem) : ∀ {p : List am}, aokM env σ mem p = true → amsR h0 tyt (asρ ρ σ) g p
  | [], _ => fun _ h => absurd h List.not_mem_nil
  | m :: l, h => by
    unfold aokM at h
    cases ha : amg env m.1 (asub σ m.2.1) (asub σ m.2.2.1) mem with
    | none => rw [ha] at h; cases h
    | some a =>
      rw [ha] at h
      obtain ⟨h1, h2⟩ := xcnb h
      have ih := aokM_ok hE hm h2
      intro x hx
      rcases List.mem_cons.mp hx with e | hx
      · rw [e]
        obtain ⟨k, j, w, a1, a2, a3, a4, a5⟩ := amg_okT hE hm ha
        exact ⟨k, j, w, by rw [← asub_ev]; exact a1, by rw [← asub_ev]; exact a2, a5, a3, avok_ok hE h1 a4⟩
      · exact ih x hx
theorem aokE_ok (hE : envR env ρ) (hF : fxR fx ρ) : ∀ {σ : List ae} {l : List (Int × Int)}, aokE env fx σ l = true → aivR l (asρ ρ σ)
  | _, [], _ => fun s i h => by cases h
  | [], _ :: _, h => by cases h
  | e :: σ, i :: l, h => by
    obtain ⟨h1, h2⟩ := xcnb (show cond (efit env fx e i.1 i.2) (aokE env fx σ l) false = true from h)
    intro s j hs
    cases s with
    | zero =>
      have e1 : i = j := Option.some.inj hs
      subst e1
      exact efit_ok hE hF h1
    | succ s => exact aokE_ok hE hF h2 s j hs
theorem aokF_ok (hE : envR env ρ) (hF : fxR fx ρ) : ∀ {l : List ae}, aokF env fx σ l = true → fxR l (asρ ρ σ)
  | [], _ => fun _ h => absurd h List.not_mem_nil
  | f :: l, h => by
    obtain ⟨h1, h2⟩ := xcnb (show cond (efrc (asub σ f) (fun x => elef env fx 2 x)) (aokF env fx σ l) false = true from h)
    rw [efrc_eq] at h1
    intro x hx
    rcases List.mem_cons.mp hx with e | hx
    · rw [e, ← asub_ev]; exact elef_ok hE hF 2 _ h1
    · exact aokF_ok hE hF h2 x hx
end Ent
