/-! Loads -/
def zdvd (s : Int) : List (Nat × Int) → Bool
  | [] => true
  | q :: l => cond (zeq (Int.emod q.2 s) 0) (zdvd s l) false
theorem zdvd_ok {s : Int} (ρ : Nat → Int) : ∀ {l : List (Nat × Int)}, zdvd s l = true → s ∣ evl ρ l
  | [], _ => Int.dvd_zero _
  | q :: l, h => by
    obtain ⟨h1, h2⟩ := xcnb (show cond (zeq (Int.emod q.2 s) 0) (zdvd s l) false = true from h)
    have h3 : s ∣ q.2 := Int.dvd_of_emod_eq_zero (zeq_iff.mp h1)
    exact Int.dvd_add (Int.dvd_trans h3 (Int.dvd_mul_right _ _)) (zdvd_ok ρ h2)
/-- an index between lo and hi, n: does it lie in the column -/
def acin (lo hi : Int) (n : ae) (c : acol) : Bool := cond (zle c.1 lo) (cond (zle hi c.2.1) (cond (zeq c.2.2.1 1) true (cond (zeq (Int.emod (Int.add n.1 (Int.neg c.1)) c.2.2.1) 0) (zdvd c.2.2.1 n.2) false)) false) false
theorem acin_ok {lo hi : Int} {n : ae} {c : acol} {ρ : Nat → Int} {j : Nat} (h : acin lo hi n c = true) (h1 : ev ρ n = (j : Int)) (h2 : lo ≤ (j : Int)) (h3 : (j : Int) ≤ hi) : acv c j := by
  obtain ⟨a1, a2⟩ := xcnb h
  obtain ⟨a3, a4⟩ := xcnb a2
  have a1 := zle_iff.mp a1
  have a3 := zle_iff.mp a3
  refine ⟨by omega, by omega, ?_⟩
  rcases xcnt a4 with a | a
  · rw [zeq_iff.mp a]; exact Int.emod_one _
  · obtain ⟨b1, b2⟩ := xcnb a
    have b3 : c.2.2.1 ∣ (n.1 + -c.1) := Int.dvd_of_emod_eq_zero (zeq_iff.mp b1)
    have b4 := zdvd_ok ρ b2
    apply Int.emod_eq_zero_of_dvd
    have e : (j : Int) - c.1 = (n.1 + -c.1) + evl ρ n.2 := by rw [← h1]; show n.1 + evl ρ n.2 - c.1 = _; omega
    rw [e]
    exact Int.dvd_add b3 b4
def acb1 (lo hi : Int) (n : ae) : List acol → Int × Int → Int × Int
  | [], b => b
  | c :: l, b => acb1 lo hi n l (cond (acin lo hi n c) (zmx b.1 c.2.2.2.1, zmn b.2 c.2.2.2.2) b)
def acbs (lo hi : Int) (n : ae) : List (Int × Int × List acol) → Int × Int → Int × Int
  | [], b => b
  | q :: l, b => cond (cond (zle q.1 lo) (zle hi q.2.1) false) (acbs lo hi n l (acb1 lo hi n q.2.2 b)) (acbs lo hi n l b)
theorem acb1_ok {lo hi : Int} {n : ae} {ρ : Nat → Int} {j : Nat} {z : Int} (h1 : ev ρ n = (j : Int)) (h2 : lo ≤ (j : Int)) (h3 : (j : Int) ≤ hi) : ∀ (l : List acol) (b : Int × Int), (∀ c ∈ l, acv c j → c.2.2.2.1 ≤ z ∧ z ≤ c.2.2.2.2) → b.1 ≤ z → z ≤ b.2 → (acb1 lo hi n l b).1 ≤ z ∧ z ≤ (acb1 lo hi n l b).2
  | [], b, _, a1, a2 => ⟨a1, a2⟩
  | c :: l, b, hc, a1, a2 => by
    show (acb1 lo hi n l (cond (acin lo hi n c) (zmx b.1 c.2.2.2.1, zmn b.2 c.2.2.2.2) b)).1 ≤ z ∧ z ≤ (acb1 lo hi n l (cond (acin lo hi n c) (zmx b.1 c.2.2.2.1, zmn b.2 c.2.2.2.2) b)).2
    have hl : ∀ c ∈ l, acv c j → c.2.2.2.1 ≤ z ∧ z ≤ c.2.2.2.2 := fun x hx => hc x (List.mem_cons_of_mem _ hx)
    cases h : acin lo hi n c with
    | false => exact acb1_ok h1 h2 h3 l b hl a1 a2
    | true =>
      obtain ⟨b1, b2⟩ := hc c List.mem_cons_self (acin_ok h h1 h2 h3)
      exact acb1_ok h1 h2 h3 l _ hl (zmx_of a1 b1) (zmn_of a2 b2)
theorem acbs_ok {lo hi : Int} {n : ae} {ρ : Nat → Int} {j : Nat} {z : Int} (h1 : ev ρ n = (j : Int)) (h2 : lo ≤ (j : Int)) (h3 : (j : Int) ≤ hi) : ∀ (l : List (Int × Int × List acol)) (b : Int × Int), (∀ q ∈ l, ∀ c ∈ q.2.2, q.1 ≤ (j : Int) → (j : Int) ≤ q.2.1 → acv c j → c.2.2.2.1 ≤ z ∧ z ≤ c.2.2.2.2) → b.1 ≤ z → z ≤ b.2 → (acbs lo hi n l b).1 ≤ z ∧ z ≤ (acbs lo hi n l b).2
  | [], b, _, a1, a2 => ⟨a1, a2⟩
  | q :: l, b, hc, a1, a2 => by
    have hl : ∀ q ∈ l, ∀ c ∈ q.2.2, q.1 ≤ (j : Int) → (j : Int) ≤ q.2.1 → acv c j → c.2.2.2.1 ≤ z ∧ z ≤ c.2.2.2.2 := fun x hx => hc x (List.mem_cons_of_mem _ hx)
    unfold acbs
    cases h : cond (zle q.1 lo) (zle hi q.2.1) false with
    | false => exact acbs_ok h1 h2 h3 l b hl a1 a2
    | true =>
      obtain ⟨b1, b2⟩ := xcnb h
      have b1 := zle_iff.mp b1
      have b2 := zle_iff.mp b2
      simp only [cond_true]
      obtain ⟨c1, c2⟩ := acb1_ok h1 h2 h3 q.2.2 b (fun c hc' => hc q List.mem_cons_self c hc' (by omega) (by omega)) a1 a2
      exact acbs_ok h1 h2 h3 l _ hl c1 c2
section Load
variable (h0 : xheap) (tyt : Lean.RArray (Nat × Nat)) (typs : Lean.RArray (Nat × aty)) (GS : gho → (Nat → Int) → cg → Prop) (HK : aenv → List ae → List am → List gho → Nat → ae → ae → Int × Int → Int × Int)
def ghR (gh : List gho) (ρ : Nat → Int) (g : cg) : Prop := ∀ x ∈ gh, GS x ρ g
/-- all that is known -/
def coR (env : aenv) (fx : List ae) (mem : List am) (gh : List gho) (g : cg) (ρ : Nat → Int) : Prop := envR env ρ ∧ fxR fx ρ ∧ amsR h0 tyt ρ g mem ∧ ghR GS gh ρ g
def aHK : Prop := ∀ (env : aenv) (fx : List ae) (mem : List am) (gh : List gho) (g : cg) (ρ : Nat → Int) (t : Nat) (c i : ae) (b : Int × Int) (k j : Nat), coR h0 tyt GS env fx mem gh g ρ → ev ρ c = (k : Int) → ev ρ i = (j : Int) → xg tyt k = some t → b.1 ≤ g k j → g k j ≤ b.2 → (HK env fx mem gh t c i b).1 ≤ g k j ∧ g k j ≤ (HK env fx mem gh t c i b).2
/-- a number that isn't known yet -/
noncomputable def anum (T : aty) (tag t : Nat) (c i : ae) (full : Int × Int) (mem : List am) (env : aenv) (fx : List ae) (gh : List gho) (ne : Nat) (k : av → List am → aenv → Nat → Bool) : Bool :=
  match eu env i with
  | none => false
  | some hi => efrc (escl i (-1)) (fun n => match eu env n with
    | none => false
    | some lo => zfrc (Int.neg lo) (fun lo => zfrc (HK env fx mem gh t c i (acbs lo hi i T.2.2.2.1 full)).1 (fun a => zfrc (HK env fx mem gh t c i (acbs lo hi i T.2.2.2.1 full)).2 (fun b =>
      afrs a b env ne (fun env' ne' => k (tag, 0, esym ne) ((t, c, i, (tag, 0, esym ne)) :: mem) env' ne')))))
noncomputable def aload (t : Nat) (c0 i0 : ae) (mem : List am) (env : aenv) (fx : List ae) (gh : List gho) (ne : Nat) (k : av → List am → aenv → Nat → Bool) : Bool :=
  efrc (enor env c0) (fun c => efrc (enor env i0) (fun i => match amg env t c i mem with
    | some v => k v mem env ne
    | none => match xg typs t with
      | none => false
      | some T => cond (cond (Nat.blt T.1 13) (match i.2 with
          | [] => true
          | _ => false) true)
        (match apl T i.1.toNat with
          | none => false
          | some u => match u.1 with
            | 0 => anum HK T 0 t c i (-2147483648, 2147483647) mem env fx gh ne k
            | 2 => anum HK T 2 t c i (-9223372036854775808, 9223372036854775807) mem env fx gh ne k
            | 4 => match c.2, i.2 with
              | [], [] => (match xg h0 c.1.toNat with
                | none => false
                | some q => match xg q.2.2 i.1.toNat with
                  | none => false
                  | some w => xfrc w.2 (fun w2 => k (4, u.2, ((w2 : Int), [])) mem env ne))
              | _, _ => (match xg typs u.2 with
                | none => false
                | some T2 => zfrc T2.2.2.1.1 (fun a => zfrc T2.2.2.1.2 (fun b => xfrc u.2 (fun t2 => afrs a b env ne (fun env' ne' => k (4, t2, esym ne) ((t, c, i, (4, t2, esym ne)) :: mem) env' ne')))))
            | _ => false) false))
variable {h0 tyt typs GS HK}
theorem amsR_cons {ρ : Nat → Int} {g : cg} {m : am} {mem : List am} (h1 : amR h0 tyt ρ g m) (h2 : amsR h0 tyt ρ g mem) : amsR h0 tyt ρ g (m :: mem) := fun x hx => by
  rcases List.mem_cons.mp hx with e | hx
  · rw [e]; exact h1
  · exact h2 x hx
theorem anum_ok (hHK : aHK h0 tyt GS HK) {g : cg} (hI : aInv tyt typs g) {T : aty} {tag t : Nat} {c i : ae} {full : Int × Int} {mem : List am} {env : aenv} {fx : List ae} {gh : List gho} {ne : Nat} {k : av → List am → aenv → Nat → Bool} {ρ : Nat → Int} {kc j : Nat}
    (hC : aC ne ρ (coR h0 tyt GS env fx mem gh g)) (hp : aC ne ρ (fun τ => ev τ c = (kc : Int) ∧ ev τ i = (j : Int))) (ht : xg tyt kc = some t) (hT : xg typs t = some T) {v0 : cv} (hcat : cat h0 g kc j v0) (hf : full.1 ≤ g kc j ∧ g kc j ≤ full.2) (hv : ∀ τ : Nat → Int, ∀ e : ae, ev τ e = g kc j → avR tyt τ (tag, 0, e) v0)
    (h : anum HK T tag t c i full mem env fx gh ne k = true) : ∃ v mem' env' ne' ρ', k v mem' env' ne' = true ∧ ne ≤ ne' ∧ aag ne ρ ρ' ∧ aC ne' ρ' (coR h0 tyt GS env' fx mem' gh g) ∧ aC ne' ρ' (fun τ => avR tyt τ v v0) := by
  unfold anum at h
  cases hu : eu env i with
  | none => rw [hu] at h; cases h
  | some hi =>
    rw [hu] at h
    dsimp only at h
    rw [efrc_eq] at h
    cases hl : eu env (escl i (-1)) with
    | none => rw [hl] at h; cases h
    | some lo =>
      rw [hl] at h
      dsimp only at h
      rw [zfrc_eq, zfrc_eq, zfrc_eq, afrs_eq] at h
      have hR := hC.self
      have hpp := hp.self
      have b1 := eu_ok hR.1 hu
      have b2 := eu_ok hR.1 hl
      rw [escl_ev] at b2
      have hbd := acbs_ok (lo := Int.neg lo) (hi := hi) (n := i) (ρ := ρ) (j := j) (z := g kc j) hpp.2 (by show -lo ≤ _; omega) (by omega) T.2.2.2.1 full (fun q hq c hc => (hI kc t T ht hT).1 q hq c hc j) hf.1 hf.2
      have hbd2 := hHK env fx mem gh g ρ t c i _ kc j hR hpp.1 hpp.2 ht hbd.1 hbd.2
      refine ⟨_, _, _, _, aup ρ ne (g kc j), h, by omega, aup_ag ρ ne _, ?_, ?_⟩
      · have hE : aC (ne + 1) (aup ρ ne (g kc j)) (envR _) := afrs_ok (hC.imp (fun _ x => x.1)) hbd2.1 hbd2.2
        intro τ hτ
        have hτ2 : aag ne ρ τ := aag.tr (by omega) (aup_ag ρ ne _) hτ
        have hc := hC τ hτ2
        have hq := hp τ hτ2
        have hev : ev τ (esym ne) = g kc j := by rw [esym_ev, hτ ne (by omega), aup_self]
        exact ⟨hE τ hτ, hc.2.1, amsR_cons ⟨kc, j, v0, hq.1, hq.2, ht, hcat, hv τ _ hev⟩ hc.2.2.1, hc.2.2.2⟩
      · intro τ hτ
        exact hv τ _ (by rw [esym_ev, hτ ne (by omega), aup_self])
theorem aload_ok (hW : aWd h0 tyt typs) (hHK : aHK h0 tyt GS HK) {g : cg} (hI : aInv tyt typs g) {t : Nat} {c0 i0 : ae} {mem : List am} {env : aenv} {fx : List ae} {gh : List gho} {ne : Nat} {k : av → List am → aenv → Nat → Bool} {ρ : Nat → Int} {kc j : Nat}
    (hC : aC ne ρ (coR h0 tyt GS env fx mem gh g)) (hp0 : aC ne ρ (fun τ => ev τ c0 = (kc : Int) ∧ ev τ i0 = (j : Int))) (ht : xg tyt kc = some t) {v0 : cv} (hcat : cat h0 g kc j v0) {q : xcell} (hq : xg h0 kc = some q) (hj : j < q.2.1)
    (h : aload h0 typs HK t c0 i0 mem env fx gh ne k = true) : ∃ v mem' env' ne' ρ', k v mem' env' ne' = true ∧ ne ≤ ne' ∧ aag ne ρ ρ' ∧ aC ne' ρ' (coR h0 tyt GS env' fx mem' gh g) ∧ aC ne' ρ' (fun τ => avR tyt τ v v0) := by
  unfold aload at h
  rw [efrc_eq, efrc_eq] at h
  have hp : aC ne ρ (fun τ => ev τ (enor env c0) = (kc : Int) ∧ ev τ (enor env i0) = (j : Int)) := fun τ hτ => by
    have := hp0 τ hτ
    have hE := (hC τ hτ).1
    exact ⟨(enor_ok hE c0).trans this.1, (enor_ok hE i0).trans this.2⟩
  generalize enor env c0 = c at h hp
  generalize enor env i0 = i at h hp
  cases hm : amg env t c i mem with
  | some v =>
    rw [hm] at h
    refine ⟨v, mem, env, ne, ρ, h, Nat.le_refl _, aag.rf ne ρ, hC, fun τ hτ => ?_⟩
    obtain ⟨k', j', w, a1, a2, a3, a4⟩ := amg_ok (hC τ hτ).1 (hC τ hτ).2.2.1 hm
    have hq := hp τ hτ
    have e1 : k' = kc := by have := hq.1; omega
    have e2 : j' = j := by have := hq.2; omega
    subst e1; subst e2
    rw [cat_inj h0 hcat a3]
    exact a4
  | none =>
    rw [hm] at h
    dsimp only at h
    obtain ⟨q', T, w1, w2, w3, w4, w5, w6, w7, w8⟩ := hW kc t ht
    have eq : q' = q := Option.some.inj (w1.symm.trans hq)
    subst eq
    obtain ⟨w, u, u1, u2, u3, u4⟩ := w8 j hj
    rw [w2] at h
    obtain ⟨h1, h2⟩ := xcnb h
    have hpl : apl T i.1.toNat = some u := by
      rw [← u2]
      cases hb : Nat.blt T.1 13 with
      | false => unfold apl; rw [hb]; rfl
      | true =>
        rw [hb] at h1
        simp only [cond_true] at h1
        split at h1
        · rename_i hn
          have e := hp.self.2
          have e2 : ev ρ i = i.1 := by unfold ev; rw [hn]; show _ + 0 = _; omega
          have e3 : i.1.toNat = j := by omega
          rw [e3]
        · cases h1
    rw [hpl] at h2
    dsimp only at h2
    have hcv : v0 = cval w (g kc j) := by
      obtain ⟨qq, ww, c1, c2, c3⟩ := hcat
      have e1 : qq = q' := Option.some.inj (c1.symm.trans w1)
      subst e1
      have e2 : ww = w := Option.some.inj (c2.symm.trans u1)
      subst e2
      exact c3
    have hrange := (hI kc t T ht w2).2 j u (by rw [w4]; exact hj) u2
    obtain ⟨wt, wn⟩ := w
    obtain ⟨ut, un⟩ := u
    have u3 : wt = ut := u3
    subst u3
    split at h2
    · rename_i hz
      have hz : wt = 0 := hz
      subst hz
      have hr := hrange.1 rfl
      refine anum_ok hHK hI hC hp ht w2 hcat ?_ (fun τ e he => ?_) h2
      · unfold cI at hr
        constructor
        · exact hr.1
        · show g kc j ≤ 2147483647
          omega
      · rw [hcv]
        exact ⟨by show (0, g kc j) = (0, ev τ e); rw [he], by show cI (ev τ e); rw [he]; exact hr⟩
    · rename_i hz
      have hz : wt = 2 := hz
      subst hz
      have hr := hrange.2 rfl
      refine anum_ok hHK hI hC hp ht w2 hcat ?_ (fun τ e he => ?_) h2
      · unfold cL at hr
        constructor
        · exact hr.1
        · show g kc j ≤ 9223372036854775807
          omega
      · rw [hcv]
        exact ⟨by show (2, g kc j) = (2, ev τ e); rw [he], by show cL (ev τ e); rw [he]; exact hr⟩
    · rename_i hz
      have hz : wt = 4 := hz
      subst hz
      have hty : xg tyt wn = some un := by
        rcases u4 with z | z | z
        · cases z
        · cases z
        · exact z.2
      have hv4 : ∀ τ : Nat → Int, ∀ e : ae, ev τ e = (wn : Int) → avR tyt τ (4, un, e) v0 := fun τ e he => ⟨wn, hcv, he, hty⟩
      split at h2
      · rename_i hc0 hi0
        have e1 : ev ρ c = c.1 := by unfold ev; rw [hc0]; show _ + 0 = _; omega
        have e2 : ev ρ i = i.1 := by unfold ev; rw [hi0]; show _ + 0 = _; omega
        have e3 : c.1.toNat = kc := by have := hp.self.1; omega
        have e4 : i.1.toNat = j := by have := hp.self.2; omega
        rw [e3, w1] at h2
        dsimp only at h2
        rw [e4, u1] at h2
        dsimp only at h2
        rw [xfrc_eq] at h2
        exact ⟨_, mem, env, ne, ρ, h2, Nat.le_refl _, aag.rf ne ρ, hC, fun τ _ => hv4 τ _ (by show (wn : Int) + 0 = _; omega)⟩
      · obtain ⟨q2, T2, x1, x2, x3, x4, x5, x6, x7, x8⟩ := hW wn un hty
        have h2 : (match xg typs un with
                | none => false
                | some T2 => zfrc T2.2.2.1.1 (fun a => zfrc T2.2.2.1.2 (fun b => xfrc un (fun t2 => afrs a b env ne (fun env' ne' => k (4, t2, esym ne) ((t, c, i, (4, t2, esym ne)) :: mem) env' ne'))))) = true := h2
        rw [x2] at h2
        dsimp only at h2
        rw [zfrc_eq, zfrc_eq, xfrc_eq, afrs_eq] at h2
        refine ⟨_, _, _, _, aup ρ ne (wn : Int), h2, by omega, aup_ag ρ ne _, ?_, ?_⟩
        · have hE : aC (ne + 1) (aup ρ ne (wn : Int)) (envR _) := afrs_ok (hC.imp (fun _ x => x.1)) x6 x7
          intro τ hτ
          have hτ2 : aag ne ρ τ := aag.tr (by omega) (aup_ag ρ ne _) hτ
          have hc := hC τ hτ2
          have hq := hp τ hτ2
          have hev : ev τ (esym ne) = (wn : Int) := by rw [esym_ev, hτ ne (by omega), aup_self]
          exact ⟨hE τ hτ, hc.2.1, amsR_cons ⟨kc, j, v0, hq.1, hq.2, ht, hcat, hv4 τ _ hev⟩ hc.2.2.1, hc.2.2.2⟩
        · intro τ hτ
          exact hv4 τ _ (by rw [esym_ev, hτ ne (by omega), aup_self])
    · cases h2
end Load
