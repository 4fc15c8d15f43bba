/-! Finding what a pattern's symbols stand for; checking it -/
/-- symbols below n -/
def ewf (n : Nat) : List (Nat × Int) → Bool
  | [] => true
  | q :: l => cond (Nat.blt q.1 n) (ewf n l) false
theorem ewf_evl {n : Nat} {ρ τ : Nat → Int} (ha : aag n ρ τ) : ∀ {l : List (Nat × Int)}, ewf n l = true → evl τ l = evl ρ l
  | [], _ => rfl
  | q :: l, h => by
    obtain ⟨h1, h2⟩ := xcnb (show cond (Nat.blt q.1 n) (ewf n l) false = true from h)
    show q.2 * τ q.1 + evl τ l = q.2 * ρ q.1 + evl ρ l
    rw [ha q.1 (xltb h1), ewf_evl ha h2]
theorem ewf_ev {n : Nat} {ρ τ : Nat → Int} (ha : aag n ρ τ) {e : ae} (h : ewf n e.2 = true) : ev τ e = ev ρ e := by
  unfold ev
  rw [ewf_evl ha h]
def aset : List (Option ae) → Nat → ae → List (Option ae)
  | [], _, _ => []
  | _ :: l, 0, e => some e :: l
  | q :: l, n + 1, e => q :: aset l n e
def apar (σ : List (Option ae)) : List (Nat × Int) → ae → List (Nat × Int) → ae × List (Nat × Int)
  | [], acc, u => (acc, u)
  | q :: l, acc, u => match agt σ q.1 with
    | some (some e) => apar σ l (eadd acc e q.2) u
    | _ => apar σ l acc (q :: u)
noncomputable def abd1 (σ : List (Option ae)) (p a : av) (k : List (Option ae) → Bool) : Bool :=
  match p.2.2.2 with
  | [] => k σ
  | _ => match apar σ p.2.2.2 (p.2.2.1, []) [] with
    | (r, [q]) => cond (zeq q.2 1) (efrc (eadd a.2.2 r (-1)) (fun e => k (aset σ q.1 e))) (k σ)
    | _ => k σ
noncomputable def abdL (ls : List (Nat × av)) : List (Nat × av) → List (Option ae) → (List (Option ae) → Bool) → Bool
  | [], σ, k => k σ
  | p :: l, σ, k => match alk ls p.1 with
    | none => false
    | some a => abd1 σ p.2 a (fun σ => abdL ls l σ k)
noncomputable def abdS : List av → List av → List (Option ae) → (List (Option ae) → Bool) → Bool
  | p :: l, a :: m, σ, k => abd1 σ p a (fun σ => abdS l m σ k)
  | _, _, σ, k => k σ
noncomputable def abdR : Option av → Option av → List (Option ae) → (List (Option ae) → Bool) → Bool
  | some p, some a, σ, k => abd1 σ p a k
  | _, _, σ, k => k σ
def afin : List (Option ae) → List ae
  | [] => []
  | q :: l => (match q with
    | none => (0, [])
    | some e => e) :: afin l
/-- the first p stand for themselves, n in all -/
def aidn : Nat → Nat → Nat → List (Option ae)
  | 0, _, _ => []
  | n + 1, 0, _ => none :: aidn n 0 0
  | n + 1, p + 1, s => some (esym s) :: aidn n p (s + 1)
section EntD
variable (h0 : xheap) (tyt : Lean.RArray (Nat × Nat)) (typs : Lean.RArray (Nat × aty)) (HK : aenv → List ae → List am → List gho → Nat → ae → ae → Int × Int → Int × Int) (HH : aenv → List ae → List am → List gho → gho → Bool)
/-- the pattern's places are looked at -/
noncomputable def aens (fx : List ae) (gh : List gho) : List am → List (Option ae) → List am → aenv → Nat → (List (Option ae) → List am → aenv → Nat → Bool) → Bool
  | [], σ, mem, env, ne, k => k σ mem env ne
  | m :: l, σ, mem, env, ne, k => efrc (enor env (asub (afin σ) m.2.1)) (fun c => efrc (enor env (asub (afin σ) m.2.2.1)) (fun i => match amg env m.1 c i mem with
    | some v => abd1 σ m.2.2.2 v (fun σ => aens fx gh l σ mem env ne k)
    | none => match c.2 with
      | [] => (match xg tyt c.1.toNat with
        | none => false
        | some t => match xg typs t with
          | none => false
          | some T => cond (Nat.beq t m.1 && (zle 0 c.1 && (ewf ne i.2 && efit env fx i 0 (Int.add (T.2.1 : Int) (-1))))) (aload h0 typs HK t c i mem env fx gh ne (fun v mem env ne => abd1 σ m.2.2.2 v (fun σ => aens fx gh l σ mem env ne k))) false)
      | _ => false))
noncomputable def aokG (env : aenv) (fx : List ae) (mem : List am) (gh : List gho) (σ : List ae) : List gho → Bool
  | [] => true
  | x :: l => cond (cond (cond (Nat.beq x.1 50) true (Nat.beq x.1 51)) (eeqb (asgt σ x.2.1) (esym x.2.1)) true) (cond (HH env fx mem gh (x.1, x.2.1, x.2.2.1, asub σ x.2.2.2)) (aokG env fx mem gh σ l) false) false
noncomputable def aokM0 (env : aenv) (fx : List ae) (σ : List ae) (M : Option ae) (m : ae) : Bool := match M with
  | none => true
  | some m0 => efrc (asub σ m) (fun x => cond (elef env fx 2 (escl x (-1))) (efrc (eadc (eadd x m0 (-1)) 1) (fun z => elef env fx 2 z)) false)
noncomputable def achk (p : Nat) (P : apat) (M : Option ae) (σ : List ae) (ls : List (Nat × av)) (st : List av) (rv : Option av) (mem : List am) (env : aenv) (fx : List ae) (gh : List gho) : Bool :=
  cond (aokI p 0 σ) (cond (aokL env σ ls P.1) (cond (aokS env σ P.2.1 st) (cond (aokR env σ P.2.2.1 rv) (cond (aokM env σ mem P.2.2.2.1) (cond (aokE env fx σ P.2.2.2.2.1) (cond (aokF env fx σ P.2.2.2.2.2.1) (cond (aokG HH env fx mem gh σ P.2.2.2.2.2.2.1) (aokM0 env fx σ M P.2.2.2.2.2.2.2) false) false) false) false) false) false) false) false
noncomputable def aent (p : Nat) (P : apat) (M : Option ae) (ls : List (Nat × av)) (st : List av) (rv : Option av) (mem : List am) (env : aenv) (fx : List ae) (gh : List gho) (ne : Nat) (k : List ae → List am → aenv → Nat → Bool) : Bool :=
  abdL ls P.1 (aidn P.2.2.2.2.1.length p 0) (fun σ => abdS P.2.1 st σ (fun σ => abdR P.2.2.1 rv σ (fun σ => aens h0 tyt typs HK fx gh P.2.2.2.1 σ mem env ne (fun σ mem env ne => cond (achk HH p P M (afin σ) ls st rv mem env fx gh) (k (afin σ) mem env ne) false))))
end EntD
theorem abd1_ok {σ : List (Option ae)} {p a : av} {k : List (Option ae) → Bool} (h : abd1 σ p a k = true) : ∃ σ', k σ' = true := by
  unfold abd1 at h
  split at h
  · exact ⟨_, h⟩
  · split at h
    · rename_i r q e
      cases hz : zeq q.2 1 with
      | true => rw [hz] at h; simp only [cond_true] at h; rw [efrc_eq] at h; exact ⟨_, h⟩
      | false => rw [hz] at h; exact ⟨_, h⟩
    · exact ⟨_, h⟩
theorem abdL_ok {ls : List (Nat × av)} : ∀ {p : List (Nat × av)} {σ : List (Option ae)} {k : List (Option ae) → Bool}, abdL ls p σ k = true → ∃ σ', k σ' = true
  | [], σ, k, h => ⟨σ, h⟩
  | p :: l, σ, k, h => by
    unfold abdL at h
    cases ha : alk ls p.1 with
    | none => rw [ha] at h; cases h
    | some a =>
      rw [ha] at h
      obtain ⟨σ', h1⟩ := abd1_ok h
      exact abdL_ok h1
theorem abdS_ok : ∀ {p a : List av} {σ : List (Option ae)} {k : List (Option ae) → Bool}, abdS p a σ k = true → ∃ σ', k σ' = true
  | [], _, σ, k, h => ⟨σ, h⟩
  | _ :: _, [], σ, k, h => ⟨σ, h⟩
  | p :: l, a :: m, σ, k, h => by
    obtain ⟨σ', h1⟩ := abd1_ok (show abd1 σ p a (fun σ => abdS l m σ k) = true from h)
    exact abdS_ok h1
theorem abdR_ok : ∀ {p a : Option av} {σ : List (Option ae)} {k : List (Option ae) → Bool}, abdR p a σ k = true → ∃ σ', k σ' = true
  | none, none, σ, k, h => ⟨σ, h⟩
  | none, some _, σ, k, h => ⟨σ, h⟩
  | some _, none, σ, k, h => ⟨σ, h⟩
  | some p, some a, σ, k, h => abd1_ok h
section EntS
variable {h0 : xheap} {tyt : Lean.RArray (Nat × Nat)} {typs : Lean.RArray (Nat × aty)} {HK : aenv → List ae → List am → List gho → Nat → ae → ae → Int × Int → Int × Int} {HH : aenv → List ae → List am → List gho → gho → Bool}
variable {GS : gho → (Nat → Int) → cg → Prop} {fx : List ae} {gh : List gho} {g : cg}
theorem aens_ok (hW : aWd h0 tyt typs) (hHK : aHK h0 tyt GS HK) (hI : aInv tyt typs g) : ∀ {l : List am} {σ : List (Option ae)} {mem : List am} {env : aenv} {ne : Nat} {k : List (Option ae) → List am → aenv → Nat → Bool} {ρ : Nat → Int}, aens h0 tyt typs HK fx gh l σ mem env ne k = true → aC ne ρ (coR h0 tyt GS env fx mem gh g) → ∃ σ' mem' env' ne' ρ', k σ' mem' env' ne' = true ∧ ne ≤ ne' ∧ aag ne ρ ρ' ∧ aC ne' ρ' (coR h0 tyt GS env' fx mem' gh g)
  | [], σ, mem, env, ne, k, ρ, h, hC => ⟨σ, mem, env, ne, ρ, h, Nat.le_refl _, aag.rf _ _, hC⟩
  | m :: l, σ, mem, env, ne, k, ρ, h, hC => by
    unfold aens at h
    rw [efrc_eq, efrc_eq] at h
    generalize enor env (asub (afin σ) m.2.1) = c at h
    generalize enor env (asub (afin σ) m.2.2.1) = i at h
    cases hm : amg env m.1 c i mem with
    | some v =>
      rw [hm] at h
      obtain ⟨σ', h1⟩ := abd1_ok h
      exact aens_ok hW hHK hI h1 hC
    | none =>
      rw [hm] at h
      dsimp only at h
      split at h
      · rename_i hc0
        cases ht : xg tyt c.1.toNat with
        | none => rw [ht] at h; cases h
        | some t =>
          rw [ht] at h
          dsimp only at h
          obtain ⟨q, T, w1, w2, w3, w4, w5, w6, w7, w8⟩ := hW _ _ ht
          rw [w2] at h
          obtain ⟨g1, g2⟩ := xcnb h
          obtain ⟨g3, g4⟩ := xand g1
          obtain ⟨g5, g6⟩ := xand g4
          obtain ⟨g7, g6⟩ := xand g6
          have g5 := zle_iff.mp g5
          have hc : ∀ τ : Nat → Int, ev τ c = (c.1.toNat : Int) := fun τ => by
            have : ev τ c = c.1 := by unfold ev; rw [hc0]; show _ + 0 = _; omega
            omega
          have hb := efit_ok hC.self.1 hC.self.2.1 g6
          have hb2 : ev ρ i ≤ (T.2.1 : Int) + -1 := hb.2
          obtain ⟨j, hj⟩ : ∃ j : Nat, ev ρ i = (j : Int) := ⟨(ev ρ i).toNat, by omega⟩
          have hjl : j < q.2.1 := by omega
          obtain ⟨w, u, u1, u2, u3, u4⟩ := w8 j hjl
          obtain ⟨v, mem', env', ne', ρ', h1, h2, h3, h4, h5⟩ := aload_ok hW hHK hI hC (fun τ hτ => ⟨hc τ, (ewf_ev hτ g7).trans hj⟩) ht ⟨q, w, w1, u1, rfl⟩ w1 hjl g2
          obtain ⟨σ', k1⟩ := abd1_ok h1
          obtain ⟨σ2, mem2, env2, ne2, ρ2, m1, m2, m3, m4⟩ := aens_ok hW hHK hI k1 h4
          exact ⟨σ2, mem2, env2, ne2, ρ2, m1, Nat.le_trans h2 m2, aag.tr h2 h3 m3, m4⟩
      · cases h
/-- ghosts: by a number, by the script -/
def aGSd (sv : Nat → Int32) (el : Nat → Nat) (GH : Nat → Nat → Nat → Int → cg → Prop) (x : gho) (ρ : Nat → Int) (g : cg) : Prop :=
  match x.1 with
  | 50 => ∃ n : Nat, ev ρ x.2.2.2 = (n : Int) ∧ (sv n).toInt = ρ x.2.1
  | 51 => ρ x.2.1 = (el 0 : Int)
  | k => GH k x.2.1 x.2.2.1 (ev ρ x.2.2.2) g
theorem aGSd_0 {sv : Nat → Int32} {el ec : Nat → Nat} {GH : Nat → Nat → Nat → Int → cg → Prop} (hl : el 0 < 2147483648 ∧ ∀ k : Nat, k = 2 ∨ k = 4 → ec k = el k) : aGS0 sv el ec (aGSd sv el GH) := by
  refine ⟨fun x ρ g h => ?_, fun x ρ g h => ?_, hl⟩
  · unfold aGSd; rw [h]; exact Iff.rfl
  · unfold aGSd; rw [h]; exact Iff.rfl
theorem aGSd_sub {sv : Nat → Int32} {el : Nat → Nat} {GH : Nat → Nat → Nat → Int → cg → Prop} {x : gho} {ρ ρ' : Nat → Int} {e : ae} (h1 : x.1 = 50 ∨ x.1 = 51 → ρ' x.2.1 = ρ x.2.1) (h2 : ev ρ e = ev ρ' x.2.2.2) (h : aGSd sv el GH (x.1, x.2.1, x.2.2.1, e) ρ g) : aGSd sv el GH x ρ' g := by
  obtain ⟨k, a, b, e'⟩ := x
  unfold aGSd at h ⊢
  dsimp only at h h1 h2 ⊢
  split at h
  · rename_i hk
    obtain ⟨n, n1, n2⟩ := h
    exact ⟨n, by rw [← h2]; exact n1, by rw [h1 (Or.inl rfl)]; exact n2⟩
  · show ρ' a = _
    rw [h1 (Or.inr rfl)]; exact h
  · rename_i n1 n2
    rw [h2] at h
    exact h
def aHH (h0 : xheap) (tyt : Lean.RArray (Nat × Nat)) (GS : gho → (Nat → Int) → cg → Prop) (HH : aenv → List ae → List am → List gho → gho → Bool) : Prop := ∀ (env : aenv) (fx : List ae) (mem : List am) (gh : List gho) (x : gho) (g : cg) (ρ : Nat → Int), HH env fx mem gh x = true → coR h0 tyt GS env fx mem gh g ρ → GS x ρ g
variable {sv : Nat → Int32} {el : Nat → Nat} {GH : Nat → Nat → Nat → Int → cg → Prop}
theorem aokG_ok (hHH : aHH h0 tyt (aGSd sv el GH) HH) {env : aenv} {mem : List am} {σ : List ae} {ρ : Nat → Int} (hC : coR h0 tyt (aGSd sv el GH) env fx mem gh g ρ) : ∀ {l : List gho}, aokG HH env fx mem gh σ l = true → ghR (aGSd sv el GH) l (asρ ρ σ) g
  | [], _ => fun _ h => absurd h List.not_mem_nil
  | x :: l, h => by
    unfold aokG at h
    obtain ⟨h1, h2⟩ := xcnb h
    obtain ⟨h3, h4⟩ := xcnb h2
    intro z hz
    rcases List.mem_cons.mp hz with e | hz
    · rw [e]
      refine aGSd_sub (fun hk => ?_) (asub_ev ρ σ _) (hHH env fx mem gh _ g ρ h3 hC)
      have hb : cond (Nat.beq x.1 50) true (Nat.beq x.1 51) = true := by
        rcases hk with q | q <;> rw [q] <;> rfl
      rw [hb] at h1
      show ev ρ (asgt σ x.2.1) = _
      rw [eeqb_ok h1, esym_ev]
    · exact aokG_ok hHH hC h4 z hz
theorem achk_ok (hHH : aHH h0 tyt (aGSd sv el GH) HH) {p : Nat} {P : apat} {M : Option ae} {σ : List ae} {ls : List (Nat × av)} {st : List av} {rv : Option av} {env : aenv} {mem : List am} {ρ : Nat → Int} {lsc : List (Nat × cv)} {stc : List cv} {rvc : Option cv} (hC : coR h0 tyt (aGSd sv el GH) env fx mem gh g ρ) (hl : lsR tyt ρ ls lsc) (hs : stR tyt ρ st stc) (hr : rvR tyt ρ rv rvc) (h : achk HH p P M σ ls st rv mem env fx gh = true) :
    aag p ρ (asρ ρ σ) ∧ (∃ lsc', (∀ q ∈ lsc', q ∈ lsc) ∧ patR h0 tyt (aGSd sv el GH) P (asρ ρ σ) g lsc' stc rvc) ∧ ∀ m0, M = some m0 → 0 ≤ ev (asρ ρ σ) P.2.2.2.2.2.2.2 ∧ ev (asρ ρ σ) P.2.2.2.2.2.2.2 < ev ρ m0 := by
  unfold achk at h
  obtain ⟨h1, h⟩ := xcnb h
  obtain ⟨h2, h⟩ := xcnb h
  obtain ⟨h3, h⟩ := xcnb h
  obtain ⟨h4, h⟩ := xcnb h
  obtain ⟨h5, h⟩ := xcnb h
  obtain ⟨h6, h⟩ := xcnb h
  obtain ⟨h7, h⟩ := xcnb h
  obtain ⟨h8, h9⟩ := xcnb h
  obtain ⟨hE, hF, hm, hg⟩ := id hC
  obtain ⟨lsc', l1, l2⟩ := aokL_ok hE hl h2
  refine ⟨fun s hs' => by have := aokI_ok (ρ := ρ) p 0 σ h1 s hs'; rw [this]; congr 1; omega, ⟨lsc', l2, l1, aokS_ok hE h3 hs, aokR_ok hE h4 hr, aokM_ok hE hm h5, aokE_ok hE hF h6, aokF_ok hE hF h7, aokG_ok hHH hC h8⟩, fun m0 em => ?_⟩
  subst em
  unfold aokM0 at h9
  dsimp only at h9
  rw [efrc_eq] at h9
  obtain ⟨k1, k2⟩ := xcnb h9
  rw [efrc_eq] at k2
  have k1 := elef_ok hE hF 2 _ k1
  have k2 := elef_ok hE hF 2 _ k2
  rw [escl_ev, asub_ev] at k1
  rw [eadc_ev, eadd_ev, asub_ev] at k2
  constructor <;> omega
theorem aent_ok (hW : aWd h0 tyt typs) (hHK : aHK h0 tyt (aGSd sv el GH) HK) (hHH : aHH h0 tyt (aGSd sv el GH) HH) (hI : aInv tyt typs g) {p : Nat} {P : apat} {M : Option ae} {ls : List (Nat × av)} {st : List av} {rv : Option av} {env : aenv} {mem : List am} {ne : Nat} {ρ : Nat → Int} {lsc : List (Nat × cv)} {stc : List cv} {rvc : Option cv} {k : List ae → List am → aenv → Nat → Bool} (hC : aC ne ρ (coR h0 tyt (aGSd sv el GH) env fx mem gh g)) (hl : aC ne ρ (fun τ => lsR tyt τ ls lsc)) (hs : aC ne ρ (fun τ => stR tyt τ st stc)) (hr : aC ne ρ (fun τ => rvR tyt τ rv rvc)) (h : aent h0 tyt typs HK HH p P M ls st rv mem env fx gh ne k = true) :
    ∃ σ mem' env' ne' ρ', k σ mem' env' ne' = true ∧ ne ≤ ne' ∧ aag ne ρ ρ' ∧ aC ne' ρ' (coR h0 tyt (aGSd sv el GH) env' fx mem' gh g) ∧ aag p ρ' (asρ ρ' σ) ∧ (∃ lsc', (∀ q ∈ lsc', q ∈ lsc) ∧ patR h0 tyt (aGSd sv el GH) P (asρ ρ' σ) g lsc' stc rvc) ∧ ∀ m0, M = some m0 → 0 ≤ ev (asρ ρ' σ) P.2.2.2.2.2.2.2 ∧ ev (asρ ρ' σ) P.2.2.2.2.2.2.2 < ev ρ' m0 := by
  unfold aent at h
  obtain ⟨σ1, h⟩ := abdL_ok h
  obtain ⟨σ2, h⟩ := abdS_ok h
  obtain ⟨σ3, h⟩ := abdR_ok h
  obtain ⟨σ4, mem', env', ne', ρ', h1, h2, h3, h4⟩ := aens_ok hW hHK hI h hC
  obtain ⟨h5, h6⟩ := xcnb h1
  exact ⟨afin σ4, mem', env', ne', ρ', h6, h2, h3, h4, achk_ok hHH h4.self (hl.mono h2 h3).self (hs.mono h2 h3).self (hr.mono h2 h3).self h5⟩
end EntS
