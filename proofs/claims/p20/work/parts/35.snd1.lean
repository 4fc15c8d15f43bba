/-! The step is right: what the states say, frames, numbers -/
abbrev cfr : Type := Nat × Nat × List (Nat × cv) × List cv
section States
variable (G : xG) (h0 : xheap) (n0 : Nat) (cn0 sn0 : Nat → Nat) (Q : cg → Option cv → Prop)
def cQ : List cfr → Nat → cg → Option cv → Prop
  | [], _, g, rv => Q g rv
  | q :: l, d, g, rv => cT G h0 n0 q.1 (d + 1) q.2.1 q.2.2.1 (cpsh rv q.2.2.2) g (cn0 q.1) (sn0 q.1) (cQ l (d + 1))
def cTF (frc : List cfr) (y d pc : Nat) (lsc : List (Nat × cv)) (stc : List cv) (g : cg) : Prop := cT G h0 n0 y d pc lsc stc g (cn0 y) (sn0 y) (cQ G h0 n0 cn0 sn0 Q frc d)
variable (tyt : Lean.RArray (Nat × Nat)) (typs : Lean.RArray (Nat × aty)) (GS : gho → (Nat → Int) → cg → Prop)
def stR (τ : Nat → Int) : List av → List cv → Prop
  | [], [] => True
  | a :: l, v :: m => avR tyt τ a v ∧ stR τ l m
  | _, _ => False
def lsR (τ : Nat → Int) : List (Nat × av) → List (Nat × cv) → Prop
  | [], [] => True
  | a :: l, v :: m => v.1 = a.1 ∧ avR tyt τ a.2 v.2 ∧ lsR τ l m
  | _, _ => False
def frR (τ : Nat → Int) : List afr → List cfr → Prop
  | [], [] => True
  | a :: l, v :: m => v.1 = a.1 ∧ v.2.1 = a.2.1 ∧ lsR tyt τ a.2.2.1 v.2.2.1 ∧ stR tyt τ a.2.2.2 v.2.2.2 ∧ frR τ l m
  | _, _ => False
/-- fixed: the first symbols, what is not written -/
def aFX (p : Nat) (ρ0 : Nat → Int) (g0 : cg) (wc : Nat → Nat → Prop) (ρ : Nat → Int) (ne : Nat) (g : cg) : Prop := p ≤ ne ∧ aag p ρ0 ρ ∧ ∀ k j : Nat, ¬ wc k j → g k j = g0 k j
def aGm (FX : (Nat → Int) → Nat → cg → Prop) (ρ : Nat → Int) (ls : List (Nat × av)) (st : List av) (fr : List afr) (mem : List am) (env : aenv) (fx : List ae) (gh : List gho) (ne : Nat) (g : cg) (lsc : List (Nat × cv)) (stc : List cv) (frc : List cfr) : Prop :=
  aC ne ρ (coR h0 tyt GS env fx mem gh g) ∧ aC ne ρ (fun τ => lsR tyt τ ls lsc ∧ stR tyt τ st stc ∧ frR tyt τ fr frc) ∧ aInv tyt typs g ∧ FX ρ ne g
def aSnd (FX : (Nat → Int) → Nat → cg → Prop) (rec : aF) : Prop := ∀ (y dd pc : Nat) (ls : List (Nat × av)) (st : List av) (fr : List afr) (mem : List am) (env : aenv) (fx : List ae) (gh : List gho) (ne : Nat), rec y dd pc ls st fr mem env fx gh ne = true →
  ∀ (ρ : Nat → Int) (g : cg) (lsc : List (Nat × cv)) (stc : List cv) (frc : List cfr) (d : Nat), aGm h0 tyt typs GS FX ρ ls st fr mem env fx gh ne g lsc stc frc → dd ≤ d → cTF G h0 n0 cn0 sn0 Q frc y d pc lsc stc g
/-- a value, found -/
def aRes (env : aenv) (fx : List ae) (mem : List am) (gh : List gho) (ne : Nat) (ρ : Nat → Int) (g : cg) (k : av → aenv → Nat → Bool) (v0 : cv) : Prop :=
  ∃ v env' ne' ρ', k v env' ne' = true ∧ ne ≤ ne' ∧ aag ne ρ ρ' ∧ aC ne' ρ' (coR h0 tyt GS env' fx mem gh g) ∧ aC ne' ρ' (fun τ => avR tyt τ v v0)
def aFXm (FX : (Nat → Int) → Nat → cg → Prop) : Prop := ∀ (ρ ρ' : Nat → Int) (ne ne' : Nat) (g : cg), FX ρ ne g → ne ≤ ne' → aag ne ρ ρ' → FX ρ' ne' g
end States
theorem aFX_m {p : Nat} {ρ0 : Nat → Int} {g0 : cg} {wc : Nat → Nat → Prop} : aFXm (aFX p ρ0 g0 wc) := fun ρ ρ' ne ne' g h hn ha => ⟨by have := h.1; omega, aag.tr h.1 h.2.1 ha, h.2.2⟩
section Snd1
variable {h0 : xheap} {tyt : Lean.RArray (Nat × Nat)} {typs : Lean.RArray (Nat × aty)} {GS : gho → (Nat → Int) → cg → Prop}
theorem avR_int {τ : Nat → Int} : ∀ {a : av} {v : cv}, avR tyt τ a v → a.1 = 0 → v = (0, ev τ a.2.2) ∧ cI (ev τ a.2.2)
  | (0, _, _), _, h, _ => h
theorem avR_lng {τ : Nat → Int} : ∀ {a : av} {v : cv}, avR tyt τ a v → a.1 = 2 → v = (2, ev τ a.2.2) ∧ cL (ev τ a.2.2)
  | (2, _, _), _, h, _ => h
theorem avR_ref {τ : Nat → Int} : ∀ {a : av} {v : cv}, avR tyt τ a v → a.1 = 4 → ∃ k : Nat, v = (4, (k : Int)) ∧ ev τ a.2.2 = (k : Int) ∧ xg tyt k = some a.2.1
  | (4, _, _), _, h, _ => h
theorem avR_ext {τ : Nat → Int} : ∀ {a : av} {v : cv}, avR tyt τ a v → a.1 = 6 → v = (6, (a.2.1 : Int))
  | (6, _, _), _, h, _ => h
theorem avR_cmp {τ : Nat → Int} : ∀ {a : av} {v : cv}, avR tyt τ a v → a.1 = 9 → v = (0, csgn (ev τ a.2.2))
  | (9, _, _), _, h, _ => h
/-- tags -/
theorem avR_tag {τ : Nat → Int} : ∀ {a : av} {v : cv}, avR tyt τ a v → v.1 = a.1 ∨ (a.1 = 9 ∧ v.1 = 0)
  | (0, _, _), _, h => Or.inl (by rw [h.1])
  | (1, _, _), _, h => h.elim
  | (2, _, _), _, h => Or.inl (by rw [h.1])
  | (3, _, _), _, h => h.elim
  | (4, _, _), _, h => by obtain ⟨k, h, -⟩ := h; exact Or.inl (by rw [h])
  | (5, _, _), v, h => Or.inl (by rw [show v = (5, 0) from h])
  | (6, n, _), v, h => Or.inl (by rw [show v = (6, (n : Int)) from h])
  | (7, _, _), _, h => h.elim
  | (8, _, _), _, h => h.elim
  | (9, _, e), v, h => Or.inr ⟨rfl, by rw [show v = (0, csgn (ev τ e)) from h]⟩
  | (10, _, _), v, h => Or.inl (by rw [show v = (10, 0) from h])
  | (_ + 11, _, _), _, h => h.elim
theorem avR_kd {τ : Nat → Int} {a : av} {v : cv} (h : avR tyt τ a v) : Nat.beq (xkd v.1) 1 = Nat.beq (xkd a.1) 1 := by
  rcases avR_tag h with e | ⟨e1, e2⟩
  · rw [e]
  · rw [e1, e2]; rfl
theorem avR_kd2 {τ : Nat → Int} {a : av} {v : cv} (h : avR tyt τ a v) {k : Nat} (hk : xkd a.1 = k) (hn : k ≠ 9) : xkd v.1 = k := by
  rcases avR_tag h with e | ⟨e1, e2⟩
  · rw [e]; exact hk
  · rw [e1] at hk
    exact absurd hk.symm hn
theorem stR_cons {τ : Nat → Int} {a : av} {l : List av} {stc : List cv} (h : stR tyt τ (a :: l) stc) : ∃ v m, stc = v :: m ∧ avR tyt τ a v ∧ stR tyt τ l m := by
  cases stc with
  | nil => exact h.elim
  | cons v m => exact ⟨v, m, rfl, h.1, h.2⟩
theorem stR_nil {τ : Nat → Int} {stc : List cv} (h : stR tyt τ [] stc) : stc = [] := by
  cases stc with
  | nil => rfl
  | cons v m => exact h.elim
theorem lsR_lk {τ : Nat → Int} {i : Nat} : ∀ {ls : List (Nat × av)} {lsc : List (Nat × cv)} {a : av}, lsR tyt τ ls lsc → alk ls i = some a → ∃ v, clk lsc i = some v ∧ avR tyt τ a v
  | [], _, _, _, h => by cases h
  | _ :: _, [], _, h, _ => h.elim
  | q :: l, r :: m, a, h, hk => by
    have hk : cond (Nat.beq q.1 i) (some q.2) (alk l i) = some a := hk
    show ∃ v, cond (Nat.beq r.1 i) (some r.2) (clk m i) = some v ∧ avR tyt τ a v
    rw [h.1]
    cases hb : Nat.beq q.1 i with
    | true =>
      rw [hb] at hk
      have e : q.2 = a := Option.some.inj hk
      exact ⟨r.2, rfl, by rw [← e]; exact h.2.1⟩
    | false =>
      rw [hb] at hk
      exact lsR_lk h.2.2 hk
theorem lsR_flt {τ : Nat → Int} {f : Nat → Nat × xv → Bool} (hf : ∀ (i j t t' : Nat), Nat.beq (xkd t) 1 = Nat.beq (xkd t') 1 → f i (j, (t, 0)) = f i (j, (t', 0))) {i : Nat} : ∀ {ls : List (Nat × av)} {lsc : List (Nat × cv)}, lsR tyt τ ls lsc → lsR tyt τ (ls.filter (akp f i)) (lsc.filter (ckp f i))
  | [], [], _ => trivial
  | [], _ :: _, h => h.elim
  | _ :: _, [], h => h.elim
  | q :: l, r :: m, h => by
    have e : akp f i q = ckp f i r := by
      show f i (q.1, (q.2.1, 0)) = f i (r.1, (r.2.1, 0))
      rw [h.1]
      exact hf i q.1 q.2.1 r.2.1 (avR_kd h.2.1).symm
    rw [List.filter_cons, List.filter_cons, e]
    cases ckp f i r with
    | true => exact ⟨h.1, h.2.1, lsR_flt hf h.2.2⟩
    | false => exact lsR_flt hf h.2.2
theorem xk1_kd (i j t t' : Nat) (h : Nat.beq (xkd t) 1 = Nat.beq (xkd t') 1) : xk1 i (j, (t, 0)) = xk1 i (j, (t', 0)) := by
  show (!(Nat.beq j i) && !(Nat.beq (j + 1) i && Nat.beq (xkd t) 1)) = (!(Nat.beq j i) && !(Nat.beq (j + 1) i && Nat.beq (xkd t') 1))
  rw [h]
theorem xk2_kd (i j t t' : Nat) (h : Nat.beq (xkd t) 1 = Nat.beq (xkd t') 1) : xk2 i (j, (t, 0)) = xk2 i (j, (t', 0)) := by
  show (!(Nat.beq j i) && (!(Nat.beq j (i + 1)) && !(Nat.beq (j + 1) i && Nat.beq (xkd t) 1))) = (!(Nat.beq j i) && (!(Nat.beq j (i + 1)) && !(Nat.beq (j + 1) i && Nat.beq (xkd t') 1)))
  rw [h]
theorem stR_wds {τ : Nat → Int} : ∀ {st : List av} {stc : List cv}, stR tyt τ st stc → cwds stc = awds st
  | [], [], _ => rfl
  | [], _ :: _, h => h.elim
  | _ :: _, [], h => h.elim
  | a :: l, v :: m, h => by
    show cond (Nat.beq (xkd v.1) 1) 2 1 + cwds m = cond (Nat.beq (xkd a.1) 1) 2 1 + awds l
    rw [avR_kd h.1, stR_wds h.2]
theorem stR_arg {τ : Nat → Int} : ∀ (i : Nat) {st : List av} {stc : List cv}, stR tyt τ st stc → lsR tyt τ (aarg i st) (carg i stc)
  | _, [], [], _ => trivial
  | _, [], _ :: _, h => h.elim
  | _, _ :: _, [], h => h.elim
  | i, a :: l, v :: m, h => by
    refine ⟨rfl, h.1, ?_⟩
    show lsR tyt τ (aarg (cond (Nat.beq (xkd a.1) 1) (i + 2) (i + 1)) l) (carg (cond (Nat.beq (xkd v.1) 1) (i + 2) (i + 1)) m)
    rw [avR_kd h.1]
    exact stR_arg _ h.2
theorem cpop_R {τ : Nat → Int} : ∀ (n : Nat) {acc st : List av} {accc stc : List cv} {q : List av × List av}, stR tyt τ acc accc → stR tyt τ st stc → cpop n acc st = some q → ∃ qc, cpop n accc stc = some qc ∧ stR tyt τ q.1 qc.1 ∧ stR tyt τ q.2 qc.2
  | 0, acc, st, accc, stc, q, h1, h2, h => by
    cases h
    exact ⟨_, rfl, h1, h2⟩
  | n + 1, acc, [], accc, stc, q, h1, h2, h => by cases h
  | n + 1, acc, a :: l, accc, [], q, h1, h2, h => h2.elim
  | n + 1, acc, a :: l, accc, v :: m, q, h1, h2, h => cpop_R n (acc := a :: acc) (accc := v :: accc) ⟨h2.1, h1⟩ h2.2 h
theorem sI_ok {n : Nat} (h : n < 4294967296) : (nI n).toInt = sI n := by
  rw [nI_int, Nat.mod_eq_of_lt h]
  unfold sI
  cases hb : Nat.blt n 2147483648 with
  | true => rw [if_pos (xltb hb)]; rfl
  | false =>
    have := xnltb hb
    rw [if_neg (by omega)]
    show _ = Int.negSucc _
    rw [Int.negSucc_eq]
    omega
theorem sL_ok {n : Nat} (h : n < 18446744073709551616) : (lN n).toInt = sL n := by
  rw [lN_int, Nat.mod_eq_of_lt h]
  unfold sL
  cases hb : Nat.blt n 9223372036854775808 with
  | true => rw [if_pos (xltb hb)]; rfl
  | false =>
    have := xnltb hb
    rw [if_neg (by omega)]
    show _ = Int.negSucc _
    rw [Int.negSucc_eq]
    omega
theorem coR_env {env env' : aenv} {fx fx' : List ae} {mem : List am} {gh : List gho} {g : cg} {τ : Nat → Int} (h : coR h0 tyt GS env fx mem gh g τ) (h1 : envR env' τ) (h2 : fxR fx' τ) : coR h0 tyt GS env' fx' mem gh g τ := ⟨h1, h2, h.2.2.1, h.2.2.2⟩
theorem aar_ok {tag : Nat} {e : ae} {lo hi : Int} {env : aenv} {fx : List ae} {mem : List am} {gh : List gho} {ne : Nat} {ρ : Nat → Int} {g : cg} {k : av → aenv → Nat → Bool} {v0 : cv} {z : Int} (hC : aC ne ρ (coR h0 tyt GS env fx mem gh g)) (hz : lo ≤ z ∧ z ≤ hi) (he : aC ne ρ (fun τ => lo ≤ ev τ e → ev τ e ≤ hi → ev τ e = z)) (hv : ∀ (τ : Nat → Int) (x : ae), ev τ x = z → avR tyt τ (tag, 0, x) v0)
    (h : aar tag e lo hi env fx ne k = true) : aRes h0 tyt GS env fx mem gh ne ρ g k v0 := by
  unfold aar at h
  cases hf : efit env fx e lo hi with
  | true =>
    rw [hf] at h
    refine ⟨_, env, ne, ρ, h, Nat.le_refl _, aag.rf ne ρ, hC, fun τ hτ => ?_⟩
    obtain ⟨b1, b2⟩ := efit_ok (hC τ hτ).1 (hC τ hτ).2.1 hf
    exact hv τ e (he τ hτ b1 b2)
  | false =>
    rw [hf] at h
    simp only [cond_false] at h
    rw [afrs_eq] at h
    refine ⟨_, _, _, aup ρ ne z, h, by omega, aup_ag ρ ne z, fun τ hτ => ?_, fun τ hτ => hv τ _ (afrs_ev τ hτ)⟩
    exact coR_env (hC τ (aag.tr (by omega) (aup_ag ρ ne z) hτ)) (afrs_ok (hC.imp (fun _ x => x.1)) hz.1 hz.2 τ hτ) (hC τ (aag.tr (by omega) (aup_ag ρ ne z) hτ)).2.1
theorem aany_ok {tag : Nat} {lo hi : Int} {env : aenv} {fx : List ae} {mem : List am} {gh : List gho} {ne : Nat} {ρ : Nat → Int} {g : cg} {k : av → aenv → Nat → Bool} {v0 : cv} {z : Int} (hC : aC ne ρ (coR h0 tyt GS env fx mem gh g)) (hz : lo ≤ z ∧ z ≤ hi) (hv : ∀ (τ : Nat → Int) (x : ae), ev τ x = z → avR tyt τ (tag, 0, x) v0)
    (h : aany tag lo hi env ne k = true) : aRes h0 tyt GS env fx mem gh ne ρ g k v0 := by
  unfold aany at h
  cases hf : zeq lo hi with
  | true =>
    rw [hf] at h
    simp only [cond_true] at h
    rw [zfrc_eq] at h
    have e := zeq_iff.mp hf
    exact ⟨_, env, ne, ρ, h, Nat.le_refl _, aag.rf ne ρ, hC, fun τ hτ => hv τ _ (by show lo + 0 = z; omega)⟩
  | false =>
    rw [hf] at h
    simp only [cond_false] at h
    rw [zfrc_eq, zfrc_eq, afrs_eq] at h
    refine ⟨_, _, _, aup ρ ne z, h, by omega, aup_ag ρ ne z, fun τ hτ => ?_, fun τ hτ => hv τ _ (afrs_ev τ hτ)⟩
    exact coR_env (hC τ (aag.tr (by omega) (aup_ag ρ ne z) hτ)) (afrs_ok (hC.imp (fun _ x => x.1)) hz.1 hz.2 τ hτ) (hC τ (aag.tr (by omega) (aup_ag ρ ne z) hτ)).2.1
theorem crel_neg (o : Jvm.ClassFile.Cond) (a b : Int) : crel (aneg o) a b = !(crel o a b) := by
  cases o
  · show decide (a ≠ b) = !(decide (a = b)); by_cases h : a = b <;> simp [h]
  · show decide (a = b) = !(decide (a ≠ b)); by_cases h : a = b <;> simp [h]
  · show decide (b ≤ a) = !(decide (a < b)); by_cases h : a < b <;> simp [h] <;> omega
  · show decide (a < b) = !(decide (b ≤ a)); by_cases h : b ≤ a <;> simp [h] <;> omega
  · show decide (a ≤ b) = !(decide (b < a)); by_cases h : b < a <;> simp [h] <;> omega
  · show decide (b < a) = !(decide (a ≤ b)); by_cases h : a ≤ b <;> simp [h] <;> omega
theorem crel_sub (o : Jvm.ClassFile.Cond) (a b : Int) : crel o a b = crel o (a - b) 0 := by
  cases o <;> unfold crel <;> apply decide_eq_decide.mpr <;> omega
theorem crel_sgn (o : Jvm.ClassFile.Cond) (a : Int) : crel o (csgn a) 0 = crel o a 0 := by
  unfold csgn
  cases o <;> unfold crel <;> apply decide_eq_decide.mpr <;> (split <;> first | omega | (split <;> omega))
theorem acn2_ok {P : (Nat → Int) → Prop} (hP : ∃ ρ, P ρ) {sp : Bool} {o : Jvm.ClassFile.Cond} {env : aenv} {fx : List ae} {e : ae} {k : aenv → List ae → Bool} (h : acn2 sp o env fx e k = true) {z : Int} (hz : ∀ ρ, P ρ → ev ρ e = z) (hR : ∀ ρ, P ρ → envR env ρ ∧ fxR fx ρ) (ho : crel o z 0 = true) :
    ∃ env' fx', k env' fx' = true ∧ ∀ ρ, P ρ → envR env' ρ ∧ fxR fx' ρ := by
  have go : ∀ o2, crel o2 z 0 = true → acnd o2 env fx e k = true → ∃ env' fx', k env' fx' = true ∧ ∀ ρ, P ρ → envR env' ρ ∧ fxR fx' ρ := fun o2 h1 h2 => acnd_ok hP h2 (fun ρ p => ⟨(hR ρ p).1, (hR ρ p).2, by rw [hz ρ p]; exact h1⟩)
  unfold acn2 at h
  split at h
  · obtain ⟨h1, h2⟩ := xcnb h
    have hne : z ≠ 0 := of_decide_eq_true ho
    by_cases hl : z < 0
    · exact go .lt (decide_eq_true hl) h1
    · exact go .gt (decide_eq_true (show 0 < z by omega)) h2
  · exact go o ho h
end Snd1
