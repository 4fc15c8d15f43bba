/-! The step is right: copies, calls, answers -/
section Snd6
variable {sv : Nat → Int32} {cd : xcd} {mi : xmi} {df : xdf} {el : Nat → Nat} {eb : Nat → List Nat} {G : xG} {h0 : xheap} {n0 : Nat} {cn0 sn0 : Nat → Nat} {Q : cg → Option cv → Prop}
variable {tyt : Lean.RArray (Nat × Nat)} {typs : Lean.RArray (Nat × aty)} {GS : gho → (Nat → Int) → cg → Prop} {FX : (Nat → Int) → Nat → cg → Prop} {wc : Nat → Nat → Prop}
variable {HK : aenv → List ae → List am → List gho → Nat → ae → ae → Int × Int → Int × Int} {HS : aenv → List ae → List am → List gho → Nat → ae → ae → av → List gho} {WOK : aenv → List ae → Nat → ae → ae → Bool} {WOA : aenv → List ae → Nat → ae → Bool} {HA : aenv → List ae → List am → List gho → Nat → ae → Nat → ae → ae → ae → ae → List gho} {inl : Nat → Bool}
variable {SM : Nat → Nat → List av → List am → aenv → List ae → List gho → Nat → (Option av → List am → aenv → List ae → List gho → Nat → Bool) → Bool} {RT : Option av → List am → aenv → List ae → List gho → Nat → Bool}
variable {rec : aF} {y d dd pc nx tg r1 r2 : Nat} {ins : Instr} {ls : List (Nat × av)} {st : List av} {fr : List afr} {mem : List am} {env : aenv} {fx : List ae} {gh : List gho} {ne : Nat} {ρ : Nat → Int} {g : cg} {lsc : List (Nat × cv)} {stc : List cv} {frc : List cfr}
def aHA (h0 : xheap) (tyt : Lean.RArray (Nat × Nat)) (GS : gho → (Nat → Int) → cg → Prop) (HA : aenv → List ae → List am → List gho → Nat → ae → Nat → ae → ae → ae → ae → List gho) : Prop := ∀ (env : aenv) (fx : List ae) (mem : List am) (gh : List gho) (g : cg) (ρ : Nat → Int) (ta : Nat) (ca : ae) (tb : Nat) (cb sp dp m : ae) (ka kb s d n : Nat), coR h0 tyt GS env fx mem gh g ρ → ev ρ ca = (ka : Int) → ev ρ cb = (kb : Int) → xg tyt ka = some ta → xg tyt kb = some tb → ev ρ sp = (s : Int) → ev ρ dp = (d : Int) → ev ρ m = (n : Int) → ghR GS (HA env fx mem gh ta ca tb cb sp dp m) ρ (ccp g ka kb s d n)
def aWOA (tyt : Lean.RArray (Nat × Nat)) (WOA : aenv → List ae → Nat → ae → Bool) (wc : Nat → Nat → Prop) : Prop := ∀ (env : aenv) (fx : List ae) (t : Nat) (c : ae) (ρ : Nat → Int) (k : Nat), WOA env fx t c = true → envR env ρ → fxR fx ρ → ev ρ c = (k : Int) → xg tyt k = some t → ∀ j, wc k j
theorem a_cpy_ok (hG : cW sv cd mi df el eb G) (hF : aFXm FX) (hrec : aSnd G h0 n0 cn0 sn0 Q tyt typs GS FX rec) (hγ : aGm h0 tyt typs GS FX ρ ls st fr mem env fx gh ne g lsc stc frc) (hd : dd ≤ d) {i : Nat} (h00 : cH0 h0) (hFC : ∀ (ρ : Nat → Int) (ne : Nat) (g : cg) (ka kb s d n : Nat), FX ρ ne g → (∀ j, wc kb j) → FX ρ ne (ccp g ka kb s d n)) (hW : aWd h0 tyt typs) (hHA : aHA h0 tyt GS HA) (hWA : aWOA tyt WOA wc) (hc : cC cd y pc (.invokestatic i, nx, tg, r1, r2)) (h8 : r2 = 8) (h : a_cpy typs WOA HA rec nx y dd ls st fr mem env fx gh ne = true) : cTF G h0 n0 cn0 sn0 Q frc y d pc lsc stc g := by
  unfold a_cpy at h
  match st, hγ, h with
  | [], _, h => cases h
  | [_], _, h => cases h
  | [_, _], _, h => cases h
  | [_, _, _], _, h => cases h
  | [_, _, _, _], _, h => cases h
  | m :: dp :: b :: sp :: a :: r, hγ, h =>
    obtain ⟨g1, h⟩ := xcnb h
    obtain ⟨g1, t7⟩ := xand g1
    obtain ⟨g1, t6⟩ := xand g1
    obtain ⟨g1, t5⟩ := xand g1
    obtain ⟨g1, t4⟩ := xand g1
    obtain ⟨g1, t3⟩ := xand g1
    obtain ⟨t1, t2⟩ := xand g1
    obtain ⟨mv, s1, rfl, hm, hs1⟩ := a_top hγ.gs
    obtain ⟨dv, s2, rfl, hdp, hs2⟩ := a_top hs1
    obtain ⟨bv, s3, rfl, hb, hs3⟩ := a_top hs2
    obtain ⟨spv, s4, rfl, hsp, hs4⟩ := a_top hs3
    obtain ⟨av', rc, rfl, ha, hr⟩ := a_top hs4
    obtain ⟨zm, rfl, hzm, hzme⟩ := a_int hm (xeqb t1)
    obtain ⟨zd, rfl, hzd, hzde⟩ := a_int hdp (xeqb t2)
    obtain ⟨kb, rfl, hkb1, hkb2⟩ := a_refv hb (xeqb t3)
    obtain ⟨zs, rfl, hzs, hzse⟩ := a_int hsp (xeqb t4)
    obtain ⟨ka, rfl, hka1, hka2⟩ := a_refv ha (xeqb t5)
    obtain ⟨qa, Ta, a1, a2, a3, a4, a5, a6, a7, a8⟩ := hW ka _ hka1
    obtain ⟨qb, Tb, b1, b2, b3, b4, b5, b6, b7, b8⟩ := hW kb _ hkb1
    rw [a2] at h
    dsimp only at h
    rw [b2] at h
    obtain ⟨g1, h⟩ := xcnb h
    obtain ⟨g1, c9⟩ := xand g1
    obtain ⟨g1, c8⟩ := xand g1
    obtain ⟨g1, c7⟩ := xand g1
    obtain ⟨g1, c6⟩ := xand g1
    obtain ⟨g1, c5⟩ := xand g1
    obtain ⟨g1, c4⟩ := xand g1
    obtain ⟨g1, c3⟩ := xand g1
    obtain ⟨c1, c2⟩ := xand g1
    have hE := hγ.1.self.1
    have hX := hγ.1.self.2.1
    have e3 := elef_ok hE hX 2 _ c3
    have e4 := elef_ok hE hX 2 _ c4
    have e5 := elef_ok hE hX 2 _ c5
    have e6 := elef_ok hE hX 2 _ c6
    have e7 := elef_ok hE hX 2 _ c7
    rw [escl_ev, hzme.self] at e3
    rw [escl_ev, hzde.self] at e4
    rw [escl_ev, hzse.self] at e5
    rw [eadc_ev, eadd_ev, hzse.self, hzme.self] at e6
    rw [eadc_ev, eadd_ev, hzde.self, hzme.self] at e7
    have e6 : zs + 1 * zm + -(Ta.2.1 : Int) ≤ 0 := e6
    have e7 : zd + 1 * zm + -(Tb.2.1 : Int) ≤ 0 := e7
    have em : zm = (zm.toNat : Int) := by omega
    have ed : zd = (zd.toNat : Int) := by omega
    have es : zs = (zs.toNat : Int) := by omega
    have hkind : qa.1 = 13 ∨ qa.1 = 14 := by rw [← a3]; exact (xor2 c1).imp xeqb xeqb
    have hkind2 : qb.1 = qa.1 := by rw [← a3, ← b3]; exact xeqb c2
    have hwa := hWA env fx _ _ ρ kb c8 hE hX hkb2.self hkb1
    rw [em, ed, es]
    refine cT_cpy hG h00 hc h8 a1 b1 hkind hkind2 (by omega) (by omega) (by rw [stR_wds hr.self]; exact xleb t6) (by have := xleb t7; omega) ?_
    have hT13a : Nat.blt Ta.1 13 = false := by
      cases hq : Nat.blt Ta.1 13 with
      | false => rfl
      | true => have := xltb hq; rw [a3] at this; omega
    have hInv : aInv tyt typs (ccp g ka kb zs.toNat zd.toNat zm.toNat) := by
      intro k' t' T' ht' hT'
      have hold := hγ.2.2.1 k' t' T' ht' hT'
      by_cases hk : k' = kb
      · subst hk
        have x1 : t' = b.2.1 := Option.some.inj (ht'.symm.trans hkb1)
        subst x1
        have x2 : T' = Tb := Option.some.inj (hT'.symm.trans b2)
        subst x2
        have hsrc := hγ.2.2.1 ka _ Ta hka1 a2
        refine ⟨fun B hB c hc' j' q1 q2 q3 => ?_, fun j' u hj' hu' => ?_⟩
        · unfold ccp
          split
          · rename_i hin
            have c9' := List.all_eq_true.mp (List.all_eq_true.mp c9 B hB) c hc'
            obtain ⟨A, hA, c9'⟩ := List.any_eq_true.mp c9'
            obtain ⟨l1, c9'⟩ := xcnb c9'
            obtain ⟨l2, c9'⟩ := xcnb c9'
            obtain ⟨c2', hc2', c9'⟩ := List.any_eq_true.mp c9'
            obtain ⟨l3, c9'⟩ := xcnb c9'
            obtain ⟨l4, c9'⟩ := xcnb c9'
            obtain ⟨l5, c9'⟩ := xcnb c9'
            obtain ⟨l6, l7⟩ := xcnb c9'
            have l1 := zle_iff.mp l1
            have l2 : (Ta.2.1 : Int) ≤ A.2.1 + 1 := zle_iff.mp l2
            have l3 := zle_iff.mp l3
            have l4 : (Ta.2.1 : Int) ≤ c2'.2.1 + 1 := zle_iff.mp l4
            have l5 := zeq_iff.mp l5
            have l6 := zle_iff.mp l6
            have l7 := zle_iff.mp l7
            have := hsrc.1 A hA c2' hc2' (zs.toNat + (j' - zd.toNat)) (by omega) (by omega) ⟨by omega, by omega, by rw [l5]; exact Int.emod_one _⟩
            omega
          · exact hold.1 B hB c hc' j' q1 q2 q3
        · unfold ccp
          split
          · rename_i hin
            obtain ⟨w1, u1, y1, y2, y3, y4⟩ := a8 (zs.toNat + (j' - zd.toNat)) (by omega)
            obtain ⟨w2, u2, z1, z2, z3, z4⟩ := b8 j' (by omega)
            have e8 : u2 = u := Option.some.inj (z2.symm.trans hu')
            subst e8
            have hr1 := hsrc.2 (zs.toNat + (j' - zd.toNat)) u1 (by omega) y2
            obtain ⟨-, ka0⟩ := h00 ka qa a1
            obtain ⟨-, kb0⟩ := h00 k' qb b1
            obtain ⟨w3, y5, y6, y7, -⟩ := ka0 (zs.toNat + (j' - zd.toNat)) (by omega)
            obtain ⟨w4, z5, z6, z7, -⟩ := kb0 j' (by omega)
            have e9 : w3 = w1 := Option.some.inj (y5.symm.trans y1)
            have e10 : w4 = w2 := Option.some.inj (z5.symm.trans z1)
            subst e9; subst e10
            refine ⟨fun hz => hr1.1 ?_, fun hz => hr1.2 ?_⟩
            · rcases hkind with q | q
              · rw [← y3]; exact y6 (Or.inl q)
              · have := z7 (by rw [hkind2]; exact q)
                rw [z3, hz] at this; cases this
            · rcases hkind with q | q
              · have := z6 (Or.inl (by rw [hkind2]; exact q))
                rw [z3, hz] at this; cases this
              · rw [← y3]; exact y7 q
          · exact hold.2 j' u hj' hu'
      · have e : ∀ j' : Nat, ccp g ka kb zs.toNat zd.toNat zm.toNat k' j' = g k' j' := fun j' => by unfold ccp; rw [if_neg (fun z => hk z.1)]
        refine ⟨fun B hB c hc' j' q1 q2 q3 => ?_, fun j' u hj' hu' => ?_⟩
        · rw [e]; exact hold.1 B hB c hc' j' q1 q2 q3
        · rw [e]; exact hold.2 j' u hj' hu'
    refine a_nx hF hrec hInv (hFC _ _ _ _ _ _ _ _ hγ.2.2.2 hwa) hd h (Nat.le_refl _) (aag.rf _ _) (fun τ hτ => ?_) hγ.gl hr (hγ.2.1.imp (fun _ x => x.2.2))
    have hco := hγ.1 τ hτ
    refine ⟨hco.1, hco.2.1, fun x hx => ?_, hHA env fx mem gh g τ _ _ _ _ _ _ _ ka kb _ _ _ hco (hka2 τ hτ) (hkb2 τ hτ) hka1 hkb1 ((hzse τ hτ).trans es) ((hzde τ hτ).trans ed) ((hzme τ hτ).trans em)⟩
    obtain ⟨x1, x2⟩ := List.mem_filter.mp hx
    obtain ⟨k', j', v, y1, y2, y3, ⟨q, w, z1, z2, z3⟩, y5⟩ := hco.2.2.1 x x1
    have hkne : k' ≠ kb := by
      intro e
      subst e
      have e2 : x.1 = b.2.1 := Option.some.inj (y3.symm.trans hkb1)
      rw [xnb1 e2] at x2
      exact absurd (y1.trans (hkb2 τ hτ).symm) (ene_ok hco.1 x2)
    refine ⟨k', j', v, y1, y2, y3, ⟨q, w, z1, z2, ?_⟩, y5⟩
    unfold ccp
    rw [if_neg (fun z => hkne z.1)]
    exact z3
/-- what is known of a method that isn't walked into -/
def aSM (G : xG) (h0 : xheap) (n0 : Nat) (tyt : Lean.RArray (Nat × Nat)) (typs : Lean.RArray (Nat × aty)) (GS : gho → (Nat → Int) → cg → Prop) (FX : (Nat → Int) → Nat → cg → Prop) (SM : Nat → Nat → List av → List am → aenv → List ae → List gho → Nat → (Option av → List am → aenv → List ae → List gho → Nat → Bool) → Bool) : Prop :=
  ∀ (z dd : Nat) (args : List av) (mem : List am) (env : aenv) (fx : List ae) (gh : List gho) (ne : Nat) (k : Option av → List am → aenv → List ae → List gho → Nat → Bool), SM z dd args mem env fx gh ne k = true →
    ∀ (ρ : Nat → Int) (g : cg) (argc : List cv) (d : Nat), aC ne ρ (coR h0 tyt GS env fx mem gh g) → aC ne ρ (fun τ => stR tyt τ args argc) → aInv tyt typs g → FX ρ ne g → dd ≤ d →
      cT G h0 n0 z d 0 (carg 0 argc) [] g 0 0 (fun g' rv => ∃ (rva : Option av) (mem' : List am) (env' : aenv) (fx' : List ae) (gh' : List gho) (ne' : Nat) (ρ' : Nat → Int), k rva mem' env' fx' gh' ne' = true ∧ ne ≤ ne' ∧ aag ne ρ ρ' ∧ aC ne' ρ' (coR h0 tyt GS env' fx' mem' gh' g') ∧ aInv tyt typs g' ∧ FX ρ' ne' g' ∧ (match rva, rv with
        | none, none => True
        | some a, some v => aC ne' ρ' (fun τ => avR tyt τ a v)
        | _, _ => False))
theorem a_call_ok (hG : cW sv cd mi df el eb G) (hF : aFXm FX) (hrec : aSnd G h0 n0 cn0 sn0 Q tyt typs GS FX rec) (hc : cC cd y pc (ins, nx, tg, r1, r2)) (hγ : aGm h0 tyt typs GS FX ρ ls st fr mem env fx gh ne g lsc stc frc) (hd : dd ≤ d) {inst virt : Bool} (hmi : ∀ (y : Nat) (q : Nat × Nat × Nat × Nat × Nat × Nat), xg mi y = some q → cn0 y ≤ q.1 ∧ sn0 y ≤ q.2.1) (hmy : ∃ q, xg mi y = some q) (hvi : inst = true → virt = true) (he : ∀ (d : Nat) (rec : xF) (lx : List (Nat × xv)) (sx : List xv) (h : xheap), xex mi df el eb rec ins nx tg r1 r2 y d pc lx sx [] h n0 (cn0 y) (sn0 y) = x_call mi rec nx r1 y d lx sx [] h n0 (cn0 y) (sn0 y) inst virt) (hdn : ∀ (lf : dlf) (sx : List cv) (g : cg), dnx h0 sv mi el eb ins nx tg r1 r2 pc lf sx g = d_call mi r1 inst sx) (hW : aWd h0 tyt typs) (hSM : aSM G h0 n0 tyt typs GS FX SM) (h : a_call typs mi inl SM rec nx r1 y dd ls st fr mem env fx gh ne inst = true) : cTF G h0 n0 cn0 sn0 Q frc y d pc lsc stc g := by
  unfold a_call at h
  cases hu : xg mi r1 with
  | none => rw [hu] at h; cases h
  | some u =>
    rw [hu] at h
    dsimp only at h
    cases hp : cpop (cond inst (u.2.2.1 + 1) u.2.2.1) [] st with
    | none => rw [hp] at h; cases h
    | some q =>
      rw [hp] at h
      dsimp only at h
      obtain ⟨qc, p1, -, -⟩ := cpop_R (tyt := tyt) (τ := ρ) _ (acc := []) (accc := []) trivial hγ.gs.self hp
      have pR : aC ne ρ (fun τ => stR tyt τ q.1 qc.1 ∧ stR tyt τ q.2 qc.2) := fun τ hτ => by
        obtain ⟨qc', p2, p3, p4⟩ := cpop_R (tyt := tyt) (τ := τ) _ (acc := []) (accc := []) trivial (hγ.gs τ hτ) hp
        have : qc' = qc := Option.some.inj (p2.symm.trans p1)
        rw [← this]
        exact ⟨p3, p4⟩
      obtain ⟨ac, rcc⟩ := qc
      obtain ⟨aa, ra⟩ := q
      have hgo : a_go mi inl SM rec nx y dd ls fr mem env fx gh ne r1 aa ra = true ∧ crcv h0 inst virt u.2.2.2.1 ac ∧ (ac = [] → inst = false) := by
        cases aa with
        | nil =>
          dsimp only at h
          have e := stR_nil (pR.self.1)
          have e : ac = [] := e
          cases hi : inst with
          | true => rw [hi] at h; cases h
          | false => rw [hi] at h; exact ⟨h, Or.inl rfl, fun _ => rfl⟩
        | cons w l =>
          dsimp only at h
          obtain ⟨h1, h2⟩ := xcnb h
          obtain ⟨v, m, e, hv, -⟩ := stR_cons pR.self.1
          have e : ac = v :: m := e
          subst e
          refine ⟨h2, ?_, fun z => by cases z⟩
          cases hi : inst with
          | false => exact Or.inl rfl
          | true =>
            rw [hi] at h1
            have h1 : arcv typs u.2.2.2.1 w = true := h1
            refine Or.inr ⟨v, m, rfl, ?_⟩
            unfold arcv at h1
            split at h1
            · rename_i hw4
              obtain ⟨k, e1, e2, e3⟩ := avR_ref hv hw4
              obtain ⟨q, T, w1, w2, w3, -⟩ := hW k _ e3
              rw [w2] at h1
              obtain ⟨l1, l2⟩ := xand h1
              exact Or.inl ⟨k, q, e1, w1, by rw [← w3]; exact xeqb l1, xltb l2⟩
            · rename_i hw6
              obtain ⟨l1, l2⟩ := xand h1
              have e1 := avR_ext hv hw6
              refine Or.inr ⟨hvi hi, ?_, xeqb l2⟩
              rcases xor2 l1 with q | q
              · left; rw [e1, xeqb q]; rfl
              · right; rw [e1, xeqb q]; rfl
            · cases h1
      obtain ⟨hgo, hrc, hie⟩ := hgo
      unfold a_go at hgo
      cases dd with
      | zero => cases hgo
      | succ d' =>
        dsimp only at hgo
        rw [hu] at hgo
        obtain ⟨k1, k2⟩ := xcnb hgo
        obtain ⟨k3, k4⟩ := xand k1
        obtain ⟨k5, k6⟩ := xand k3
        obtain ⟨k7, k8⟩ := xand k5
        obtain ⟨d2, rfl⟩ : ∃ d2, d = d2 + 1 := ⟨d - 1, by omega⟩
        obtain ⟨qy, hqy⟩ := hmy
        obtain ⟨m1, m2⟩ := hmi y qy hqy
        obtain ⟨m3, m4⟩ := hmi r1 u hu
        have z1 : cn0 r1 = 0 := by have := xeqb k6; omega
        have z2 : sn0 r1 = 0 := by have := xeqb k4; omega
        have hw8 : cwds rcc ≤ 8 := by rw [stR_wds pR.self.2]; exact xleb k7
        have hwa : cwds ac ≤ u.2.2.2.2.2 := by rw [stR_wds pR.self.1]; exact xleb k8
        have hR := pR.imp (fun _ x => x.2)
        have hA := pR.imp (fun _ x => x.1)
        have hfr := hγ.2.1.imp (fun _ x => x.2.2)
        cases hin : inl r1 with
        | true =>
          rw [hin] at k2
          refine cT_call (Q1 := cQ G h0 n0 cn0 sn0 Q ((y, nx, lsc, rcc) :: frc) d2) hG hc (he (d2 + 1)) hdn hqy hu p1 hrc hw8 hwa (xeqb k6) (xeqb k4) m1 m2 hie ?_ (fun g1 rv h1 => h1)
          have := hrec _ _ _ _ _ _ _ _ _ _ _ k2 ρ g (carg 0 ac) [] ((y, nx, lsc, rcc) :: frc) d2 ⟨hγ.1, fun τ hτ => ⟨stR_arg 0 (hA τ hτ), trivial, rfl, rfl, hγ.gl τ hτ, hR τ hτ, hfr τ hτ⟩, hγ.2.2.1, hγ.2.2.2⟩ (by omega)
          unfold cTF at this
          rw [z1, z2] at this
          exact this
        | false =>
          rw [hin] at k2
          have hsum := hSM r1 d' aa mem env fx gh ne _ k2 ρ g ac d2 hγ.1 hA hγ.2.2.1 hγ.2.2.2 (by omega)
          refine cT_call hG hc (he (d2 + 1)) hdn hqy hu p1 hrc hw8 hwa (xeqb k6) (xeqb k4) m1 m2 hie hsum (fun g1 rv h1 => ?_)
          obtain ⟨rva, mem', env', fx', gh', ne', ρ', q1, q2, q3, q4, q5, q6, q7⟩ := h1
          refine hrec _ _ _ _ _ _ _ _ _ _ _ q1 ρ' g1 lsc (cpsh rv rcc) frc (d2 + 1) ⟨q4, fun τ hτ => ⟨hγ.gl.mono q2 q3 τ hτ, ?_, hfr.mono q2 q3 τ hτ⟩, q5, q6⟩ (by omega)
          cases rva with
          | none =>
            cases rv with
            | none => exact hR.mono q2 q3 τ hτ
            | some v => exact q7.elim
          | some a =>
            cases rv with
            | none => exact q7.elim
            | some v => exact ⟨q7 τ hτ, hR.mono q2 q3 τ hτ⟩
/-- the end of the method that is checked -/
def aRT (h0 : xheap) (tyt : Lean.RArray (Nat × Nat)) (typs : Lean.RArray (Nat × aty)) (GS : gho → (Nat → Int) → cg → Prop) (FX : (Nat → Int) → Nat → cg → Prop) (Q : cg → Option cv → Prop) (RT : Option av → List am → aenv → List ae → List gho → Nat → Bool) : Prop :=
  ∀ (rva : Option av) (mem : List am) (env : aenv) (fx : List ae) (gh : List gho) (ne : Nat), RT rva mem env fx gh ne = true → ∀ (ρ : Nat → Int) (g : cg) (rv : Option cv), aC ne ρ (coR h0 tyt GS env fx mem gh g) → aInv tyt typs g → FX ρ ne g → (match rva, rv with
        | none, none => True
        | some a, some v => aC ne ρ (fun τ => avR tyt τ a v)
        | _, _ => False) → Q g rv
/-- an answer: to the frame below, or at the end -/
theorem a_retv (hF : aFXm FX) (hrec : aSnd G h0 n0 cn0 sn0 Q tyt typs GS FX rec) (hRT : aRT h0 tyt typs GS FX Q RT) (hγ : aGm h0 tyt typs GS FX ρ ls st fr mem env fx gh ne g lsc stc frc) (hd : dd ≤ d) {rva : Option av} {rv : Option cv} (hv : match rva, rv with
        | none, none => True
        | some a, some v => aC ne ρ (fun τ => avR tyt τ a v)
        | _, _ => False) (h : a_ret RT rec dd fr mem env fx gh ne rva = true) : cQ G h0 n0 cn0 sn0 Q frc d g rv := by
  have hfr := hγ.2.1.imp (fun _ x => x.2.2)
  unfold a_ret at h
  cases fr with
  | nil =>
    dsimp only at h
    cases frc with
    | cons _ _ => exact (hfr.self).elim
    | nil => exact hRT rva mem env fx gh ne h ρ g rv hγ.1 hγ.2.2.1 hγ.2.2.2 hv
  | cons q l =>
    dsimp only at h
    cases frc with
    | nil => exact (hfr.self).elim
    | cons qc lc =>
      obtain ⟨y', nx', ls', st'⟩ := qc
      obtain ⟨f1, f2, -, -, -⟩ := hfr.self
      have f1 : y' = q.1 := f1
      have f2 : nx' = q.2.1 := f2
      subst f1; subst f2
      refine hrec _ _ _ _ _ _ _ _ _ _ _ h ρ g ls' (cpsh rv st') lc (d + 1) ⟨hγ.1, fun τ hτ => ⟨(hfr τ hτ).2.2.1, ?_, (hfr τ hτ).2.2.2.2⟩, hγ.2.2.1, hγ.2.2.2⟩ (by omega)
      cases rva with
      | none =>
        cases rv with
        | none => exact (hfr τ hτ).2.2.2.1
        | some v => exact hv.elim
      | some a =>
        cases rv with
        | none => exact hv.elim
        | some v => exact ⟨hv τ hτ, (hfr τ hτ).2.2.2.1⟩
theorem a_vret_ok (hG : cW sv cd mi df el eb G) (hF : aFXm FX) (hrec : aSnd G h0 n0 cn0 sn0 Q tyt typs GS FX rec) (hγ : aGm h0 tyt typs GS FX ρ ls st fr mem env fx gh ne g lsc stc frc) (hd : dd ≤ d) (hRT : aRT h0 tyt typs GS FX Q RT) (hc : cC cd y pc (.return_, nx, tg, r1, r2)) (h : a_vret mi RT rec y dd st fr mem env fx gh ne = true) : cTF G h0 n0 cn0 sn0 Q frc y d pc lsc stc g := by
  unfold a_vret at h
  cases hq : xg mi y with
  | none => rw [hq] at h; cases h
  | some q =>
    rw [hq] at h
    dsimp only at h
    split at h
    · rename_i h0'
      have e := stR_nil hγ.gs.self
      subst e
      exact cT_ret hG hc hq h0' (a_retv (rva := none) (rv := none) hF hrec hRT hγ hd trivial h)
    · cases h
theorem a_iret_ok (hG : cW sv cd mi df el eb G) (hF : aFXm FX) (hrec : aSnd G h0 n0 cn0 sn0 Q tyt typs GS FX rec) (hγ : aGm h0 tyt typs GS FX ρ ls st fr mem env fx gh ne g lsc stc frc) (hd : dd ≤ d) (hRT : aRT h0 tyt typs GS FX Q RT) (hc : cC cd y pc (.ireturn, nx, tg, r1, r2)) (h : a_iret mi RT rec y dd st fr mem env fx gh ne = true) : cTF G h0 n0 cn0 sn0 Q frc y d pc lsc stc g := by
  unfold a_iret at h
  cases hq : xg mi y with
  | none => rw [hq] at h; cases h
  | some q =>
    rw [hq] at h
    dsimp only at h
    split at h
    · rename_i w
      obtain ⟨h1, h2⟩ := xcnb h
      obtain ⟨h3, h4⟩ := xand h1
      obtain ⟨v, rc, rfl, hv, hr⟩ := a_top hγ.gs
      have e := stR_nil hr.self
      subst e
      obtain ⟨z, rfl, hz, hze⟩ := a_int hv (xeqb h3)
      refine cT_iret hG hc hq rfl ?_ (a_retv (rva := some w) (rv := some (0, z)) hF hrec hRT hγ hd hv h2)
      have rng : ∀ n : Int, n < 4294967295 → efit env fx w.2.2 0 n = true → c32 z = z.toNat ∧ z ≤ n := fun n hn hf => by
        have := efit_ok hγ.1.self.1 hγ.1.self.2.1 hf
        rw [hze.self] at this
        exact ⟨c32_nat this.1 (by omega), this.2⟩
      unfold arok at h4
      split at h4
      · rename_i e; rw [e]; rfl
      · rename_i e
        obtain ⟨r1', r2'⟩ := rng 1 (by omega) h4
        rw [e]
        show (Nat.beq 0 0 && Nat.ble (c32 z) 1) = true
        rw [r1', xle1 (by omega)]; rfl
      · rename_i e
        obtain ⟨r1', r2'⟩ := rng 65535 (by omega) h4
        rw [e]
        show (Nat.beq 0 0 && Nat.blt (c32 z) 65536) = true
        rw [r1', xlt1 (by omega)]; rfl
      · rename_i e
        obtain ⟨r1', r2'⟩ := rng 127 (by omega) h4
        rw [e]
        show (Nat.beq 0 0 && Nat.blt (c32 z) 128) = true
        rw [r1', xlt1 (by omega)]; rfl
      · cases h4
    · cases h
theorem a_lret_ok (hG : cW sv cd mi df el eb G) (hF : aFXm FX) (hrec : aSnd G h0 n0 cn0 sn0 Q tyt typs GS FX rec) (hγ : aGm h0 tyt typs GS FX ρ ls st fr mem env fx gh ne g lsc stc frc) (hd : dd ≤ d) (hRT : aRT h0 tyt typs GS FX Q RT) (hc : cC cd y pc (.lreturn, nx, tg, r1, r2)) (h : a_lret mi RT rec y dd st fr mem env fx gh ne = true) : cTF G h0 n0 cn0 sn0 Q frc y d pc lsc stc g := by
  unfold a_lret at h
  cases hq : xg mi y with
  | none => rw [hq] at h; cases h
  | some q =>
    rw [hq] at h
    dsimp only at h
    split at h
    · rename_i w
      obtain ⟨h1, h2⟩ := xcnb h
      obtain ⟨h3, h4⟩ := xand h1
      obtain ⟨v, rc, rfl, hv, hr⟩ := a_top hγ.gs
      have e := stR_nil hr.self
      subst e
      obtain ⟨z, rfl, hz, hze⟩ := a_lngv hv (xeqb h3)
      exact cT_lret hG hc hq (xeqb h4) rfl (a_retv (rva := some w) (rv := some (2, z)) hF hrec hRT hγ hd hv h2)
    · cases h
end Snd6
