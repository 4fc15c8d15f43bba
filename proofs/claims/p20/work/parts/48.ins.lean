/-! A method's instances: each is checked over those before it -/
/-- method, depth, start, cuts, ends, writes -/
abbrev ains : Type := Nat × Nat × apat × List (Nat × List apat) × List apat × List awr
noncomputable def aini : List (Int × Int) → Nat → aenv → (aenv → Bool) → Bool
  | [], _, env, k => k env
  | i :: l, s, env, k => xsK env s (some i) (fun env' => xfrc (s + 1) (fun s' => aini l s' env' k))
theorem aini_ok : ∀ (l : List (Int × Int)) (s : Nat) (env : aenv) (k : aenv → Bool), ∃ env', aini l s env k = k env' ∧ ∀ (t : Nat) (v : Int × Int), xg env' t = some (some v) → xg env t = some (some v) ∨ ∃ i, t = s + i ∧ agt l i = some v
  | [], s, env, k => ⟨env, rfl, fun _ _ h => Or.inl h⟩
  | i :: l, s, env, k => by
    unfold aini
    rw [xsK_eq, xfrc_eq]
    obtain ⟨env', h1, h2⟩ := aini_ok l (s + 1) (xw env s (some i)) k
    refine ⟨env', h1, fun t v ht => ?_⟩
    rcases h2 t v ht with h | ⟨j, h3, h4⟩
    · by_cases e : t = s
      · subst e
        cases hg : xg env t with
        | none => rw [xw_none env t (some i) hg] at h; cases h
        | some w =>
          rw [xg_self env t (some i) w hg] at h
          have : i = v := Option.some.inj (Option.some.inj h)
          exact Or.inr ⟨0, rfl, by rw [← this]; rfl⟩
      · rw [xg_other env s t _ e] at h
        exact Or.inl h
    · exact Or.inr ⟨j + 1, by omega, h4⟩
theorem xmk_val {α : Type} (v : α) : ∀ (f lo n k : Nat) (w : α), xg (xmk v f lo n) k = some w → w = v
  | 0, lo, n, k, w, h => by
    have h : cond (Nat.beq lo k) (some v) none = some w := h
    obtain ⟨-, h⟩ := xcnd h
    exact (Option.some.inj h).symm
  | f + 1, lo, n, k, w, h => by
    have h : xg (cond (Nat.ble n 1) (.leaf (lo, v)) (.branch (lo + n / 2) (xmk v f lo (n / 2)) (xmk v f (lo + n / 2) (n - n / 2)))) k = some w := h
    cases hb : Nat.ble n 1 with
    | true =>
      rw [hb] at h
      have h : cond (Nat.beq lo k) (some v) none = some w := h
      obtain ⟨-, h⟩ := xcnd h
      exact (Option.some.inj h).symm
    | false =>
      rw [hb] at h
      simp only [cond_false] at h
      rw [xg_branch] at h
      cases hc : Nat.ble (lo + n / 2) k with
      | true => rw [hc] at h; exact xmk_val v f _ _ k w h
      | false => rw [hc] at h; exact xmk_val v f _ _ k w h
def acts : List (Nat × List apat) → Nat → Option (List apat)
  | [], _ => none
  | q :: l, pc => cond (Nat.beq q.1 pc) (some q.2) (acts l pc)
theorem acts_mem : ∀ {l : List (Nat × List apat)} {pc : Nat} {L : List apat}, acts l pc = some L → (pc, L) ∈ l
  | [], _, _, h => by cases h
  | q :: l, pc, L, h => by
    have h : cond (Nat.beq q.1 pc) (some q.2) (acts l pc) = some L := h
    cases hb : Nat.beq q.1 pc with
    | true =>
      rw [hb] at h
      have e1 := xeqb hb
      have e2 : q.2 = L := Option.some.inj h
      have : q = (pc, L) := by rw [← e1, ← e2]
      rw [this]; exact List.mem_cons_self
    | false => rw [hb] at h; exact List.mem_cons_of_mem _ (acts_mem h)
/-- what a run promises, and that it is this run -/
theorem cT.run {G : xG} {h0 : xheap} {n0 y d pc : Nat} {ls : List (Nat × cv)} {st : List cv} {g : cg} {cn sn : Nat} {Q Q' : cg → Option cv → Prop} (h : cT G h0 n0 y d pc ls st g cn sn Q) (hq : ∀ g' r, Q g' r → (∃ f lf, dag lf ls ∧ G.2 h0 f y pc lf st g = some (g', r)) → Q' g' r) : cT G h0 n0 y d pc ls st g cn sn Q' := by
  intro lf hl
  obtain ⟨o, q, ⟨f, e⟩, u⟩ := h lf hl
  exact ⟨o, hq _ _ q ⟨f, lf, hl, e⟩, ⟨f, e⟩, u⟩
noncomputable def aXSk (tyt : Lean.RArray (Nat × Nat)) (z : Nat) (args : List av) (wr : List awr) (mem0 : List am) (env0 : aenv) (fx0 : List ae) (gh0 : List gho) (k : Option av → List am → aenv → List ae → List gho → Nat → Bool) (rv : Option av) (mem : List am) (env : aenv) (fx : List ae) (gh : List gho) (ne : Nat) : Bool :=
  k rv mem env ((zXS tyt wr z args env0 fx0 mem0 gh0 rv env fx mem gh).1 ++ fx) ((zXS tyt wr z args env0 fx0 mem0 gh0 rv env fx mem gh).2 ++ gh) ne
def aXS (G : xG) (h0 : xheap) (tyt : Lean.RArray (Nat × Nat)) (typs : Lean.RArray (Nat × aty)) (GS : gho → (Nat → Int) → cg → Prop) : Prop :=
  ∀ (z : Nat) (args : List av) (wr : List awr) (mem0 : List am) (env0 : aenv) (fx0 : List ae) (gh0 : List gho) (rva : Option av) (mem : List am) (env : aenv) (fx : List ae) (gh : List gho) (g g' : cg) (ρ : Nat → Int) (argc : List cv) (rv : Option cv) (f : Nat) (lf : dlf), coR h0 tyt GS env0 fx0 mem0 gh0 g ρ → stR tyt ρ args argc → aInv tyt typs g → aInv tyt typs g' → (∀ k j : Nat, ¬ awc tyt wr k j → g' k j = g k j) → dag lf (carg 0 argc) → G.2 h0 f z 0 lf [] g = some (g', rv) → coR h0 tyt GS env fx mem gh g' ρ → rvR tyt ρ rva rv → fxR (zXS tyt wr z args env0 fx0 mem0 gh0 rva env fx mem gh).1 ρ ∧ ghR GS (zXS tyt wr z args env0 fx0 mem0 gh0 rva env fx mem gh).2 ρ g'
theorem aXSk_ok {G : xG} {h0 : xheap} {tyt : Lean.RArray (Nat × Nat)} {typs : Lean.RArray (Nat × aty)} {GS : gho → (Nat → Int) → cg → Prop} (hX : aXS G h0 tyt typs GS) {z : Nat} {args : List av} {wr : List awr} {mem0 : List am} {env0 : aenv} {fx0 : List ae} {gh0 : List gho} {k : Option av → List am → aenv → List ae → List gho → Nat → Bool} {rva : Option av} {mem : List am} {env : aenv} {fx : List ae} {gh : List gho} {ne : Nat} {ρ : Nat → Int} {g g' : cg} {argc : List cv} {rv : Option cv} (h : aXSk tyt z args wr mem0 env0 fx0 gh0 k rva mem env fx gh ne = true) (hC0 : aC ne ρ (coR h0 tyt GS env0 fx0 mem0 gh0 g)) (hA : aC ne ρ (fun τ => stR tyt τ args argc)) (hI : aInv tyt typs g) (hI' : aInv tyt typs g') (hfr : ∀ k j : Nat, ¬ awc tyt wr k j → g' k j = g k j) (hrun : ∃ f lf, dag lf (carg 0 argc) ∧ G.2 h0 f z 0 lf [] g = some (g', rv)) (hC : aC ne ρ (coR h0 tyt GS env fx mem gh g')) (hr : aC ne ρ (fun τ => rvR tyt τ rva rv)) : ∃ fx' gh', k rva mem env fx' gh' ne = true ∧ aC ne ρ (coR h0 tyt GS env fx' mem gh' g') := by
  obtain ⟨f, lf, hl, he⟩ := hrun
  refine ⟨_, _, h, fun τ hτ => ?_⟩
  obtain ⟨h1, h2⟩ := hX z args wr mem0 env0 fx0 gh0 rva mem env fx gh g g' τ argc rv f lf (hC0 τ hτ) (hA τ hτ) hI hI' hfr hl he (hC τ hτ) (hr τ hτ)
  have hc := hC τ hτ
  exact ⟨hc.1, fun e h => (List.mem_append.mp h).elim (h1 e) (hc.2.1 e), hc.2.2.1, fun x h => (List.mem_append.mp h).elim (h2 x) (hc.2.2.2 x)⟩
section Ins
variable (h0 : xheap) (tyt : Lean.RArray (Nat × Nat)) (typs : Lean.RArray (Nat × aty)) (HK : aenv → List ae → List am → List gho → Nat → ae → ae → Int × Int → Int × Int) (HS : aenv → List ae → List am → List gho → Nat → ae → ae → av → List gho)
variable (HA : aenv → List ae → List am → List gho → Nat → ae → Nat → ae → ae → ae → ae → List gho) (HH : aenv → List ae → List am → List gho → gho → Bool) (HW : aenv → List ae → List am → List gho → List awr → List gho)
variable (cd : xcd) (mi : xmi) (el : Nat → Nat) (eb : Nat → List Nat) (inl : Nat → Bool) (fl : Nat → Nat → Nat) (spl : Nat → Nat → Option (Nat × Nat × Nat × Nat × List Int)) (cand : Nat → List Nat) (INS : Lean.RArray (Nat × ains))
noncomputable def aSMi (i : Nat) (wr : List awr) (z dd : Nat) (args : List av) (mem : List am) (env : aenv) (fx : List ae) (gh : List gho) (ne : Nat) (k : Option av → List am → aenv → List ae → List gho → Nat → Bool) : Bool :=
  (cand z).any (fun c => cond (Nat.blt c i) (match xg INS c with
    | none => false
    | some J => cond (Nat.beq J.1 z && Nat.ble J.2.1 dd && awsb J.2.2.2.2.2 wr) (aent h0 tyt typs HK HH 0 J.2.2.1 none (aarg 0 args) [] none mem env fx gh ne (fun σ mem env ne => cond (Nat.beq σ.length J.2.2.1.2.2.2.2.1.length) (J.2.2.2.2.1.all (fun P => apst HW J.2.2.2.2.2 P σ mem env fx gh ne (aXSk tyt z args J.2.2.2.2.2 mem env fx gh k))) false)) false) false)
noncomputable def aRTi (I : ains) (rv : Option av) (mem : List am) (env : aenv) (fx : List ae) (gh : List gho) (ne : Nat) : Bool :=
  I.2.2.2.2.1.any (fun P => aent h0 tyt typs HK HH I.2.2.1.2.2.2.2.1.length P none [] [] rv mem env fx gh ne (fun _ _ _ _ => true))
noncomputable def aCTi (I : ains) (pc : Nat) : Bool := match acts I.2.2.2.1 pc with
  | none => false
  | some _ => true
noncomputable def aCUi (I : ains) (M : Option ae) (dd pc : Nat) (ls : List (Nat × av)) (st : List av) (mem : List am) (env : aenv) (fx : List ae) (gh : List gho) (ne : Nat) : Bool :=
  cond (Nat.ble I.2.1 dd) (match acts I.2.2.2.1 pc with
    | none => false
    | some L => L.any (fun P => aent h0 tyt typs HK HH I.2.2.1.2.2.2.2.1.length P M ls st none mem env fx gh ne (fun _ _ _ _ => true))) false
noncomputable def arnI (f i : Nat) (I : ains) (P : apat) (M : Option ae) (pc : Nat) : Bool :=
  aini P.2.2.2.2.1 0 (xmk none 9 0 512) (fun env => xfrc P.2.2.2.2.1.length (fun np => aone h0 tyt typs HK HS (aWK I.2.2.2.2.2) (aWA I.2.2.2.2.2) HA cd mi el eb inl (aSMi h0 tyt typs HK HH HW cand INS i I.2.2.2.2.2) (aRTi h0 tyt typs HK HH I) fl spl
    (arun h0 tyt typs HK HS (aWK I.2.2.2.2.2) (aWA I.2.2.2.2.2) HA cd mi el eb inl (aSMi h0 tyt typs HK HH HW cand INS i I.2.2.2.2.2) (aRTi h0 tyt typs HK HH I) fl spl I.1 (aCTi I) (aCUi h0 tyt typs HK HH I M) f) I.1 I.2.1 pc P.1 P.2.1 [] P.2.2.2.1 env P.2.2.2.2.2.1 P.2.2.2.2.2.2.1 np))
/-- the forms -/
def awfI (I : ains) : Bool :=
  cond (awfP I.2.2.1) (cond (I.2.2.2.2.1.all (fun P => cond (awfP P) (cond (Nat.ble I.2.2.1.2.2.2.2.1.length P.2.2.2.2.1.length) (P.2.2.2.2.2.2.1.all (fun x => cond (Nat.beq x.1 50) false (!(Nat.beq x.1 51)))) false) false))
    (I.2.2.2.1.all (fun q => q.2.all (fun P => cond (awfP P) (cond (Nat.ble I.2.2.1.2.2.2.2.1.length P.2.2.2.2.1.length) (ewf P.2.2.2.2.1.length P.2.2.2.2.2.2.2.2) false) false))) false) false
noncomputable def achI (f i : Nat) : Bool := match xg INS i with
  | none => false
  | some I => cond (awfI I) (cond (arnI h0 tyt typs HK HS HA HH HW cd mi el eb inl fl spl cand INS f i I I.2.2.1 none 0) (I.2.2.2.1.all (fun q => q.2.all (fun P => arnI h0 tyt typs HK HS HA HH HW cd mi el eb inl fl spl cand INS f i I P (some P.2.2.2.2.2.2.2) q.1))) false) false
end Ins
section InsS
variable {sv : Nat → Int32} {cd : xcd} {mi : xmi} {df : xdf} {el ec : Nat → Nat} {eb : Nat → List Nat} {G : xG} {h0 : xheap} {n0 : Nat} {cn0 sn0 : Nat → Nat}
variable {tyt : Lean.RArray (Nat × Nat)} {typs : Lean.RArray (Nat × aty)} {GH : Nat → Nat → Nat → Int → cg → Prop}
variable {HK : aenv → List ae → List am → List gho → Nat → ae → ae → Int × Int → Int × Int} {HS : aenv → List ae → List am → List gho → Nat → ae → ae → av → List gho}
variable {HA : aenv → List ae → List am → List gho → Nat → ae → Nat → ae → ae → ae → ae → List gho} {HH : aenv → List ae → List am → List gho → gho → Bool} {HW : aenv → List ae → List am → List gho → List awr → List gho}
variable {inl : Nat → Bool} {fl : Nat → Nat → Nat} {spl : Nat → Nat → Option (Nat × Nat × Nat × Nat × List Int)} {cand : Nat → List Nat} {INS : Lean.RArray (Nat × ains)}
/-- what an instance says -/
def aQi (h0 : xheap) (tyt : Lean.RArray (Nat × Nat)) (typs : Lean.RArray (Nat × aty)) (GS : gho → (Nat → Int) → cg → Prop) (I : ains) (ρ : Nat → Int) (g0 g' : cg) (rv : Option cv) : Prop := aInv tyt typs g' ∧ (∀ k j : Nat, ¬ awc tyt I.2.2.2.2.2 k j → g' k j = g0 k j) ∧ ∃ P ∈ I.2.2.2.2.1, ∃ ρ' : Nat → Int, aag I.2.2.1.2.2.2.2.1.length ρ ρ' ∧ patR h0 tyt GS P ρ' g' [] [] rv
def aInsOK (G : xG) (h0 : xheap) (n0 : Nat) (cn0 sn0 : Nat → Nat) (tyt : Lean.RArray (Nat × Nat)) (typs : Lean.RArray (Nat × aty)) (GS : gho → (Nat → Int) → cg → Prop) (I : ains) : Prop :=
  ∀ (ρ : Nat → Int) (g : cg) (lsc : List (Nat × cv)) (d : Nat), patR h0 tyt GS I.2.2.1 ρ g lsc [] none → aInv tyt typs g → I.2.1 ≤ d → cT G h0 n0 I.1 d 0 lsc [] g (cn0 I.1) (sn0 I.1) (aQi h0 tyt typs GS I ρ g)
/-- what is asked of all -/
def aBase (sv : Nat → Int32) (cd : xcd) (mi : xmi) (df : xdf) (el ec : Nat → Nat) (eb : Nat → List Nat) (G : xG) (h0 : xheap) (cn0 sn0 : Nat → Nat) (tyt : Lean.RArray (Nat × Nat)) (typs : Lean.RArray (Nat × aty)) (GH : Nat → Nat → Nat → Int → cg → Prop) (HK : aenv → List ae → List am → List gho → Nat → ae → ae → Int × Int → Int × Int) (HS : aenv → List ae → List am → List gho → Nat → ae → ae → av → List gho) (HA : aenv → List ae → List am → List gho → Nat → ae → Nat → ae → ae → ae → ae → List gho) (HH : aenv → List ae → List am → List gho → gho → Bool) (HW : aenv → List ae → List am → List gho → List awr → List gho) : Prop :=
  cW sv cd mi df el eb G ∧ cH0 h0 ∧ aWd h0 tyt typs ∧ (el 0 < 2147483648 ∧ ∀ k : Nat, k = 2 ∨ k = 4 → ec k = el k) ∧ aHK h0 tyt (aGSd sv el GH) HK ∧ aHS h0 tyt (aGSd sv el GH) HS ∧ aHA h0 tyt (aGSd sv el GH) HA ∧ aHH h0 tyt (aGSd sv el GH) HH ∧ (aHW h0 tyt (aGSd sv el GH) HW ∧ aXS G h0 tyt typs (aGSd sv el GH)) ∧ (∀ (y : Nat) (q : Nat × Nat × Nat × Nat × Nat × Nat), xg mi y = some q → cn0 y ≤ q.1 ∧ sn0 y ≤ q.2.1) ∧ (∀ y t, xg cd y = some t → ∃ q, xg mi y = some q)
theorem aSMi_ok (hB : aBase sv cd mi df el ec eb G h0 cn0 sn0 tyt typs GH HK HS HA HH HW) {i : Nat} {wr : List awr} {p : Nat} {ρ0 : Nat → Int} {g0 : cg} (hwfI : ∀ c J, c < i → xg INS c = some J → awfI J = true) (hz : ∀ c J, c < i → xg INS c = some J → cn0 J.1 = 0 ∧ sn0 J.1 = 0) (ih : ∀ c J, c < i → xg INS c = some J → aInsOK G h0 n0 cn0 sn0 tyt typs (aGSd sv el GH) J) : aSM G h0 n0 tyt typs (aGSd sv el GH) (aFX p ρ0 g0 (awc tyt wr)) (aSMi h0 tyt typs HK HH HW cand INS i wr) := by
  obtain ⟨hG, h00, hW, hl, hHK, hHS, hHA, hHH, hHW, hmi, hmy⟩ := hB
  intro z dd args mem env fx gh ne k h ρ g argc d hC hA hI hX hd
  unfold aSMi at h
  obtain ⟨c, hc, h⟩ := List.any_eq_true.mp h
  obtain ⟨h1, h⟩ := xcnb h
  cases hJ : xg INS c with
  | none => rw [hJ] at h; cases h
  | some J =>
    rw [hJ] at h
    obtain ⟨h2, h⟩ := xcnb h
    obtain ⟨h3, h4⟩ := xand h2
    obtain ⟨h5, h6⟩ := xand h3
    obtain ⟨σ, mem', env', ne', ρ', k1, k2, k3, k4, k5, ⟨lsc', k6, k7⟩, -⟩ := aent_ok (st := []) (rv := none) (lsc := carg 0 argc) (stc := []) (rvc := none) hW hHK hHH hI hC (hA.imp (fun _ x => stR_arg 0 x)) (fun _ _ => trivial) (fun _ _ => trivial) h
    obtain ⟨k8, k9⟩ := xcnb k1
    have hwf := hwfI c J (xltb h1) hJ
    obtain ⟨-, hwf⟩ := xcnb hwf
    obtain ⟨hwf, -⟩ := xcnb hwf
    have hins := ih c J (xltb h1) hJ (asρ ρ' σ) g lsc' d k7 hI (by have := xleb h6; omega)
    obtain ⟨z1, z2⟩ := hz c J (xltb h1) hJ
    rw [z1, z2, xeqb h5] at hins
    refine (cT_drop hG k6 hins).run (fun g' rv hq hrun => ?_)
    obtain ⟨q1, q2, P, hP, ρ2, q3, q4⟩ := hq
    have wP := List.all_eq_true.mp hwf P hP
    obtain ⟨w1, wP⟩ := xcnb wP
    obtain ⟨w2, w3⟩ := xcnb wP
    have el' : σ.length = J.2.2.1.2.2.2.2.1.length := xeqb k8
    obtain ⟨rva, mem2, env2, fx2, gh2, ne2, ρ3, m1, m2, m3, m4, m5⟩ := apst_ok hHW.1 w1 (fun x hx => by
      have := List.all_eq_true.mp w3 x hx
      cases hb : Nat.beq x.1 50 with
      | true => rw [hb] at this; cases this
      | false =>
        rw [hb] at this
        simp only [cond_false] at this
        refine ⟨xneb hb, fun e => ?_⟩
        rw [e] at this
        cases this) k4 (by rw [el']; exact xleb w2) (by rw [el']; exact q3) q4 q2 (List.all_eq_true.mp k9 P hP)
    obtain ⟨fx3, gh3, m1, m4⟩ := aXSk_ok hHW.2 m1 (k4.mono m2 m3) (hA.mono (Nat.le_trans k2 m2) (aag.tr k2 k3 m3)) hI q1 q2 hrun m4 m5
    refine ⟨rva, mem2, env2, fx3, gh3, ne2, ρ3, m1, Nat.le_trans k2 m2, aag.tr k2 k3 m3, m4, q1, ?_, ?_⟩
    · obtain ⟨x1, x2, x3⟩ := hX
      refine ⟨by omega, aag.tr x1 x2 (aag.tr k2 k3 m3), fun kk j hn => ?_⟩
      rw [q2 kk j (fun hw => hn (awsb_ok h4 hw))]
      exact x3 kk j hn
    · cases rva with
      | none =>
        cases rv with
        | none => trivial
        | some v => exact m5.self.elim
      | some a =>
        cases rv with
        | none => exact m5.self.elim
        | some v => exact m5
theorem arn_ok (hB : aBase sv cd mi df el ec eb G h0 cn0 sn0 tyt typs GH HK HS HA HH HW) {f i : Nat} {I : ains} {P : apat} {M : Option ae} {pc : Nat} {ρe ρc : Nat → Int} {g0 g : cg} {lsc : List (Nat × cv)} {stc : List cv} {d : Nat} (hwf : awfP P = true) (hpn : I.2.2.1.2.2.2.2.1.length ≤ P.2.2.2.2.1.length) (hag : aag I.2.2.1.2.2.2.2.1.length ρe ρc) (hpat : patR h0 tyt (aGSd sv el GH) P ρc g lsc stc none) (hI : aInv tyt typs g) (hfr : ∀ k j : Nat, ¬ awc tyt I.2.2.2.2.2 k j → g k j = g0 k j) (hd : I.2.1 ≤ d)
    (hSM : aSM G h0 n0 tyt typs (aGSd sv el GH) (aFX P.2.2.2.2.1.length ρc g0 (awc tyt I.2.2.2.2.2)) (aSMi h0 tyt typs HK HH HW cand INS i I.2.2.2.2.2))
    (hcut : ∀ (pc' : Nat) (L : List apat) (P' : apat), acts I.2.2.2.1 pc' = some L → P' ∈ L → ∀ (ρ2 : Nat → Int) (g' : cg) (lsc' : List (Nat × cv)) (stc' : List cv) (d' : Nat), aag I.2.2.1.2.2.2.2.1.length ρe ρ2 → patR h0 tyt (aGSd sv el GH) P' ρ2 g' lsc' stc' none → aInv tyt typs g' → (∀ k j : Nat, ¬ awc tyt I.2.2.2.2.2 k j → g' k j = g0 k j) → I.2.1 ≤ d' → (∀ m0, M = some m0 → ∀ τ, aag P.2.2.2.2.1.length ρc τ → 0 ≤ ev ρ2 P'.2.2.2.2.2.2.2 ∧ (ev ρ2 P'.2.2.2.2.2.2.2 < ev τ m0 ∨ False)) → cT G h0 n0 I.1 d' pc' lsc' stc' g' (cn0 I.1) (sn0 I.1) (aQi h0 tyt typs (aGSd sv el GH) I ρe g0))
    (hM : ∀ m0, M = some m0 → ewf P.2.2.2.2.1.length m0.2 = true)
    (h : arnI h0 tyt typs HK HS HA HH HW cd mi ec eb inl fl spl cand INS f i I P M pc = true) : cT G h0 n0 I.1 d pc lsc stc g (cn0 I.1) (sn0 I.1) (aQi h0 tyt typs (aGSd sv el GH) I ρe g0) := by
  obtain ⟨hG, h00, hW, hl, hHK, hHS, hHA, hHH, hHW, hmi, hmy⟩ := hB
  unfold arnI at h
  obtain ⟨env, e1, e2⟩ := aini_ok P.2.2.2.2.1 0 (xmk none 9 0 512) _
  rw [e1] at h
  rw [xfrc_eq] at h
  have hγ : aGm h0 tyt typs (aGSd sv el GH) (aFX P.2.2.2.2.1.length ρc g0 (awc tyt I.2.2.2.2.2)) ρc P.1 P.2.1 [] P.2.2.2.1 env P.2.2.2.2.2.1 P.2.2.2.2.2.2.1 P.2.2.2.2.1.length g lsc stc [] := by
    refine ⟨fun τ hτ => ?_, fun τ hτ => ?_, hI, Nat.le_refl _, aag.rf _ _, hfr⟩
    · have hp := patR_ag hwf hτ hpat
      refine ⟨fun s v hs => ?_, hp.2.2.2.2.2.1, hp.2.2.2.1, hp.2.2.2.2.2.2⟩
      rcases e2 s v hs with q | ⟨j, q1, q2⟩
      · have := xmk_val none 9 0 512 s (some v) q
        cases this
      · have e : s = j := by omega
        rw [e]
        exact hp.2.2.2.2.1 j v q2
    · have hp := patR_ag hwf hτ hpat
      exact ⟨hp.1, hp.2.1, trivial⟩
  have hOK : aOK sv cd mi df el ec eb G h0 n0 cn0 sn0 (aQi h0 tyt typs (aGSd sv el GH) I ρe g0) tyt typs (aGSd sv el GH) (aFX P.2.2.2.2.1.length ρc g0 (awc tyt I.2.2.2.2.2)) (awc tyt I.2.2.2.2.2) HK HS (aWK I.2.2.2.2.2) (aWA I.2.2.2.2.2) HA (aSMi h0 tyt typs HK HH HW cand INS i I.2.2.2.2.2) (aRTi h0 tyt typs HK HH I) := by
    refine ⟨hG, aFX_m, fun ρ ne g k j z hx hw => ⟨hx.1, hx.2.1, fun k' j' hn => ?_⟩, fun ρ ne g ka kb s d n hx hw => ⟨hx.1, hx.2.1, fun k' j' hn => ?_⟩, h00, hW, aGSd_0 hl, hHK, hHS, aWK_ok, hHA, aWA_ok, hSM, ?_, hmi, hmy⟩
    · unfold cup
      rw [if_neg (fun e => hn (by rw [e.1, e.2]; exact hw))]
      exact hx.2.2 k' j' hn
    · unfold ccp
      rw [if_neg (fun e => hn (by rw [e.1]; exact hw j'))]
      exact hx.2.2 k' j' hn
    · intro rva mem env fx gh ne hr ρ g' rv hC hI' hX hv
      obtain ⟨P', hP', hr⟩ := List.any_eq_true.mp hr
      obtain ⟨σ, mem', env', ne', ρ', k1, k2, k3, k4, k5, ⟨lsc', k6, k7⟩, -⟩ := aent_ok (ls := []) (st := []) (rv := rva) (lsc := []) (stc := []) (rvc := rv) hW hHK hHH hI' hC (fun _ _ => trivial) (fun _ _ => trivial) (fun τ hτ => by
        cases rva with
        | none => cases rv with
          | none => trivial
          | some v => exact hv.elim
        | some a => cases rv with
          | none => exact hv.elim
          | some v => exact hv τ hτ) hr
      have el0 : lsc' = [] := by
        cases lsc' with
        | nil => rfl
        | cons q l => exact absurd (k6 q List.mem_cons_self) List.not_mem_nil
      subst el0
      refine ⟨hI', hX.2.2, P', hP', asρ ρ' σ, ?_, k7⟩
      exact aag.tr (Nat.le_refl _) hag (aag.tr (Nat.le_refl _) (fun s hs => (aag.tr hX.1 hX.2.1 k3) s (by omega)) k5)
  have hCU : aCU G h0 n0 cn0 sn0 (aQi h0 tyt typs (aGSd sv el GH) I ρe g0) tyt typs (aGSd sv el GH) (aFX P.2.2.2.2.1.length ρc g0 (awc tyt I.2.2.2.2.2)) I.1 (aCTi I) (aCUi h0 tyt typs HK HH I M) := by
    intro y dd pc' ls st mem env fx gh ne hct hcu ρ g' lsc2 stc2 d2 hγ2 hd2 hy
    subst hy
    obtain ⟨hdd, hcu⟩ := xcnb hcu
    cases hL : acts I.2.2.2.1 pc' with
    | none => rw [hL] at hcu; cases hcu
    | some L =>
      rw [hL] at hcu
      obtain ⟨P', hP', hr⟩ := List.any_eq_true.mp hcu
      obtain ⟨σ, mem', env', ne', ρ', k1, k2, k3, k4, k5, ⟨lsc', k6, k7⟩, k8⟩ := aent_ok (rv := none) (lsc := lsc2) (stc := stc2) (rvc := none) hW hHK hHH hγ2.2.2.1 hγ2.1 hγ2.gl hγ2.gs (fun _ _ => trivial) hr
      obtain ⟨x1, x2, x3⟩ := hγ2.2.2.2
      have hρ' : aag P.2.2.2.2.1.length ρc ρ' := aag.tr x1 x2 k3
      refine cT_drop hG k6 (hcut pc' L P' hL hP' (asρ ρ' σ) g' lsc' stc2 d2 ?_ k7 hγ2.2.2.1 x3 (by have := xleb hdd; omega) (fun m0 em τ hτ => ?_))
      · exact aag.tr (Nat.le_refl _) hag (aag.tr (Nat.le_refl _) (fun s hs => hρ' s (by omega)) k5)
      · obtain ⟨l1, l2⟩ := k8 m0 em
        refine ⟨l1, Or.inl ?_⟩
        rw [ewf_ev hτ (hM m0 em), ← ewf_ev hρ' (hM m0 em)]
        exact l2
  exact aone_ok hOK (arun_ok hOK hCU f) _ _ _ _ _ _ _ _ _ _ _ h ρc g lsc stc [] d hγ hd
theorem ains_ok (hB : aBase sv cd mi df el ec eb G h0 cn0 sn0 tyt typs GH HK HS HA HH HW) {f i : Nat} {I : ains} (hI : xg INS i = some I) (hc : achI h0 tyt typs HK HS HA HH HW cd mi ec eb inl fl spl cand INS f i = true) (hwfI : ∀ c J, c < i → xg INS c = some J → awfI J = true) (hz : ∀ c J, c < i → xg INS c = some J → cn0 J.1 = 0 ∧ sn0 J.1 = 0) (ih : ∀ c J, c < i → xg INS c = some J → aInsOK G h0 n0 cn0 sn0 tyt typs (aGSd sv el GH) J) : aInsOK G h0 n0 cn0 sn0 tyt typs (aGSd sv el GH) I := by
  unfold achI at hc
  rw [hI] at hc
  obtain ⟨c1, hc⟩ := xcnb hc
  obtain ⟨c2, c3⟩ := xcnb hc
  obtain ⟨w1, w⟩ := xcnb c1
  obtain ⟨w2, w3⟩ := xcnb w
  intro ρe g0 lsc d hpat hInv hd
  have cuts : ∀ (n : Nat) (pc : Nat) (L : List apat) (P : apat), acts I.2.2.2.1 pc = some L → P ∈ L → ∀ (ρc : Nat → Int) (g : cg) (lsc : List (Nat × cv)) (stc : List cv) (d : Nat), aag I.2.2.1.2.2.2.2.1.length ρe ρc → patR h0 tyt (aGSd sv el GH) P ρc g lsc stc none → aInv tyt typs g → (∀ k j : Nat, ¬ awc tyt I.2.2.2.2.2 k j → g k j = g0 k j) → I.2.1 ≤ d → ev ρc P.2.2.2.2.2.2.2 < (n : Int) → cT G h0 n0 I.1 d pc lsc stc g (cn0 I.1) (sn0 I.1) (aQi h0 tyt typs (aGSd sv el GH) I ρe g0) := by
    intro n
    induction n with
    | zero =>
      intro pc L P hL hP ρc g lsc stc d hag hp hI' hfr hd' hm
      have wP := List.all_eq_true.mp (List.all_eq_true.mp w3 (pc, L) (acts_mem hL)) P hP
      obtain ⟨v1, wP⟩ := xcnb wP
      obtain ⟨v2, v3⟩ := xcnb wP
      have hrun := List.all_eq_true.mp (List.all_eq_true.mp c3 (pc, L) (acts_mem hL)) P hP
      refine arn_ok hB v1 (xleb v2) hag hp hI' hfr hd' (aSMi_ok hB hwfI hz ih) (fun pc' L' P' hL' hP' ρ2 g' lsc' stc' d' a1 a2 a3 a4 a5 a6 => ?_) (fun m0 em => by have : P.2.2.2.2.2.2.2 = m0 := Option.some.inj em; rw [← this]; exact v3) hrun
      obtain ⟨b1, b2⟩ := a6 _ rfl ρc (aag.rf _ _)
      rcases b2 with b2 | b2
      · omega
      · exact b2.elim
    | succ n ihn =>
      intro pc L P hL hP ρc g lsc stc d hag hp hI' hfr hd' hm
      have wP := List.all_eq_true.mp (List.all_eq_true.mp w3 (pc, L) (acts_mem hL)) P hP
      obtain ⟨v1, wP⟩ := xcnb wP
      obtain ⟨v2, v3⟩ := xcnb wP
      have hrun := List.all_eq_true.mp (List.all_eq_true.mp c3 (pc, L) (acts_mem hL)) P hP
      refine arn_ok hB v1 (xleb v2) hag hp hI' hfr hd' (aSMi_ok hB hwfI hz ih) (fun pc' L' P' hL' hP' ρ2 g' lsc' stc' d' a1 a2 a3 a4 a5 a6 => ?_) (fun m0 em => by have : P.2.2.2.2.2.2.2 = m0 := Option.some.inj em; rw [← this]; exact v3) hrun
      obtain ⟨b1, b2⟩ := a6 _ rfl ρc (aag.rf _ _)
      rcases b2 with b2 | b2
      · exact ihn pc' L' P' hL' hP' ρ2 g' lsc' stc' d' a1 a2 a3 a4 a5 (by omega)
      · exact b2.elim
  refine arn_ok (ρe := ρe) hB w1 (Nat.le_refl _) (aag.rf _ _) hpat hInv (fun _ _ _ => rfl) hd (aSMi_ok hB hwfI hz ih) (fun pc' L' P' hL' hP' ρ2 g' lsc' stc' d' a1 a2 a3 a4 a5 a6 => ?_) (fun m0 em => by cases em) c2
  exact cuts ((ev ρ2 P'.2.2.2.2.2.2.2).toNat + 1) pc' L' P' hL' hP' ρ2 g' lsc' stc' d' a1 a2 a3 a4 a5 (by omega)
/-- all instances, one behind another -/
theorem ains_all (hB : aBase sv cd mi df el ec eb G h0 cn0 sn0 tyt typs GH HK HS HA HH HW) {f N : Nat} (hc : ∀ i, i < N → achI h0 tyt typs HK HS HA HH HW cd mi ec eb inl fl spl cand INS f i = true) (hz : ∀ c J, c + 1 < N → xg INS c = some J → cn0 J.1 = 0 ∧ sn0 J.1 = 0) : ∀ i, i < N → ∀ I, xg INS i = some I → aInsOK G h0 n0 cn0 sn0 tyt typs (aGSd sv el GH) I := by
  intro i
  induction i using Nat.strongRecOn with
  | _ i ih =>
    intro hi I hI
    refine ains_ok hB hI (hc i hi) (fun c J hci hJ => ?_) (fun c J hci hJ => hz c J (by omega) hJ) (fun c J hci hJ => ih c hci (by omega) J hJ)
    have := hc c (by omega)
    unfold achI at this
    rw [hJ] at this
    exact (xcnb this).1
end InsS
