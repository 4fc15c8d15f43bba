/-! The step keeps its promise: calls, answers; and the whole -/
theorem xnos {L : List xleaf} (h : (none : xR) = some L) : False := by cases h
section Go5
variable {l : Launch} {D : va_G} {cl : List vw_C} {A : Nat → Prop} {sv : Nat → Int32} {ex : Nat → Nat} {el : Nat → Nat} {eb : Nat → List Nat} {nest : List (String × Nat × MethodName × String)} {txt : Nat → String × Nat × String} {ovr : List String}
variable {cd : xcd} {mi : xmi} {df : xdf} {bys : Nat → ByteArray} {nm : Nat → MethodName} {rtt : Nat → Option FieldType} {gw : List Cond}
variable {rec : xF} {y d pc : Nat} {ls : List (Nat × xv)} {st : List xv} {bx : xbox} {h : xheap} {n cn sn : Nat} {L : List xleaf}
variable {p : Program} {e : Env} {R : Room} {s : State} {m : MethodId} {args : Array Value} {below : List Frame} {meth : Method} {c : Code} {Q : State → Prop} {as : List Nat} {ws : va_W} {H : Heap} {locs : List Loc} {la : Array Slot} {stv : List Value}
def xGood (gw : List Cond) : Prop := ∀ w ∈ gw, (w.onTables && w.keeps) = true ∨ ∃ ty, w = .arrayClass ty
/-- a call, once its run is had -/
theorem xgo_fin (E : xStp l D cl A sv ex el eb nest txt ovr mi bys nm rtt gw rec y d ls st bx h n cn sn L p e R s m args below meth c Q as ws H locs la stv) {z : Nat} {ar rest : List xv} {av rv : List Value} (mok : xMok mi bys nm rtt gw z) (hx : x_go mi rec (pc + 3) y d ls bx h n cn sn z ar rest = some L) (har : xstR sv ex as ar av) (hre : xstR sv ex as rest rv)
    (run : ∀ (d' : Nat) (M : List xleaf), d = d' + 1 → Met l (nm z) (Cond.code (nm z) (bys z) (xu mi z).2.2.2.2.2 (rtt z) :: gw) ({ frames := d', cells := (xu mi z).1, slots := (xu mi z).2.1, locals := 43 * d' }) (xPc D cl A sv ex el eb nest txt ovr as h n av) (xQc D cl A sv ex as M) (xu mi z).1 (xu mi z).2.1 A →
      (rv.map fun v => v.category).sum ≤ 8 → cn + (xu mi z).1 ≤ R.cells ∧ sn + (xu mi z).2.1 ≤ R.slots → va_Run p l e R s m args below meth c H locs cn sn (xu mi z).1 (xu mi z).2.1 (F0 m pc la stv) rv (xQc D cl A sv ex as M av.toArray) A) : W p l e R s m args below meth c H locs cn sn Q (F0 m pc la stv) := by
  obtain ⟨hrec, ⟨hex, hb, hml, hown, hts, hK, hEX, hA, hnm, hRf, hRl, hRc, hRs⟩, hc, hs, ⟨hbx, hh, hP, hD, hS⟩, ⟨⟨lv, hl, hls⟩, hst⟩, hret⟩ := id E
  obtain ⟨d', q, u, M, g1, g2, g3, g4, g5, g6, g7, g8, g9⟩ := x_go_ok hx
  have hq := xu_of g2
  have hu := xu_of g3
  rw [← hq] at g6 g7
  rw [← hu] at g5 g6 g7 g9
  have hmet := xmet l D cl A sv ex el eb nest txt ovr mi bys nm rtt gw hrec g8 mok har g5 hbx
  refine xcallW (A := A) (run d' M g1 hmet (by rw [xwds_ok sv ex hre]; exact g4) ⟨by omega, by omega⟩) hS.2.2 (fun _ z => z) (fun v st₀ t H1 locs1 h0 ht hvm hqc hL => ?_)
  obtain ⟨⟨leaf, hleaf, as', ws', rv', hle, hb', hh', hP', hD', hoc, hrv⟩, hF⟩ := hqc
  have ev : v = rv' := by cases hoc; rfl
  subst ev
  obtain ⟨L', k1, k2⟩ := g9 leaf hleaf
  have hS' : va_S A s.heap H1 locs1 := by
    obtain ⟨f1, f2⟩ := hF
    rw [h0] at f1 f2
    rw [ht] at f1 f2
    exact ⟨Nat.le_trans hS.1 f1, fun a ha hna => (f2 a (Nat.lt_of_lt_of_le ha hS.1) hna).trans (hS.2.1 a ha hna), hL⟩
  refine xkk E k1 k2 hle g6 g7 ⟨hb', xhR.moved cl sv ex hvm.symm hh', by rw [← ht]; exact hP', hD', hS'⟩ ⟨⟨lv, hl, xlsR.mono sv ex hle hls⟩, ?_⟩
  cases hlr : leaf.2.2.2 with
  | none =>
    rw [hlr] at hrv
    have e : v = none := hrv
    subst e
    exact xstR.mono sv ex hle hre
  | some w =>
    rw [hlr] at hrv
    obtain ⟨v', rfl, hw⟩ := hrv
    exact ⟨hw, xstR.mono sv ex hle hre⟩
theorem xpre (E : xStp l D cl A sv ex el eb nest txt ovr mi bys nm rtt gw rec y d ls st bx h n cn sn L p e R s m args below meth c Q as ws H locs la stv) {av : List Value} : FrameBlind (xPc D cl A sv ex el eb nest txt ovr as h n av) ∧ ∀ U : State, U.heap = H → s.WarmedH U.vm → xPc D cl A sv ex el eb nest txt ovr as h n av av.toArray U := by
  obtain ⟨hrec, ⟨hex, hb, hml, hown, hts, hK, hEX, hA, hnm, hRf, hRl, hRc, hRs⟩, hc, hs, ⟨hbx, hh, hP, hD, hS⟩, hf, hret⟩ := id E
  refine ⟨fun a U g mk q => ?_, fun U hU hW => ?_⟩
  · obtain ⟨q1, ⟨ws', q2, q3, q4⟩, q5, q6, q7⟩ := q
    exact ⟨q1, ⟨ws', xhR.moved cl sv ex (u := U) (U := U.calling g mk a) (Vm.Alike.refl U.vm) q2, q3, q4⟩, va_K.moved (u := U) (U := U.calling g mk a) (Vm.Alike.refl U.vm) q5, xEX.same A sv ex rfl rfl q6, q7⟩
  · refine ⟨rfl, ⟨ws, xhR.moved cl sv ex hW.alike hh, by rw [hU]; exact hP, hD⟩, va_K.moved hW.alike hK, xEX.moved A sv ex hW (by rw [hU]; exact hS.1) (fun a ha hna => by rw [hU]; exact hS.2.1 a ha hna) hEX, fun q hq => hA q (by rw [hU] at hq; exact Nat.le_trans hS.1 hq)⟩
theorem xpay (hg : xGood gw) {z : Nat} (hts : ∀ w ∈ gw, w.before args s = true) (mok : xMok mi bys nm rtt gw z) : ∀ w ∈ (Cond.code (nm z) (bys z) (xu mi z).2.2.2.2.2 (rtt z) :: gw), ∀ (a' : Array Value) (U : State), s.WarmedH U.vm → w.before a' U = true := by
  intro w hw a' U hW
  have hm : w ∈ gw := by
    rcases List.mem_cons.mp hw with e | e
    · rw [e]; exact mok.1
    · exact e
  exact word_at hW (hg w hm) (hts w hm)
def xg6 : Instr → Bool
  | .invokevirtual _ => true
  | .invokespecial _ => true
  | .invokestatic _ => true
  | .return_ => true
  | .ireturn => true
  | .lreturn => true
  | _ => false
theorem xva_cpy_in {α : Type} {f g : Nat → α} {sp dp k j : Nat} (h : dp ≤ j) (h2 : j < dp + k) : va_cpy f g sp dp k j = f (sp + (j - dp)) := pk_cpy_in h h2
set_option maxHeartbeats 8000000 in
theorem xf6 (hgw : xGood gw) (E : xStp l D cl A sv ex el eb nest txt ovr mi bys nm rtt gw rec y d ls st bx h n cn sn L p e R s m args below meth c Q as ws H locs la stv) {ins : Instr} {len tg r1 r2 : Nat} (hg : xg6 ins = true) (hdec : decode (bys y) pc = .ok (ins, len)) (hI : xI cl nest txt ovr mi df bys nm rtt gw y pc ins len tg r1 r2)
    (hx : xex mi df el eb rec ins (pc + len) tg r1 r2 y d pc ls st bx h n cn sn = some L) : W p l e R s m args below meth c H locs cn sn Q (F0 m pc la stv) := by
  obtain ⟨hrec, ⟨hex, hb, hml, hown, hts, hK, hEX, hA, hnm, hRf, hRl, hRc, hRs⟩, hc, hs, ⟨hbx, hh, hP, hD, hS⟩, ⟨⟨lv, hl, hls⟩, hst⟩, hret⟩ := id E
  cases ins with
  | invokevirtual i =>
    obtain ⟨rfl, mok, f1, f2, f3, f4, f5⟩ := hI
    obtain ⟨u, q, g1, g2, g3, g4⟩ := x_call_ok hx
    have hu := xu_of g1
    obtain ⟨w, l2, g5, g6⟩ := g4 rfl
    obtain ⟨aV, rV, a1, a2, a3, a4⟩ := xpop_ok sv ex _ (acc := []) (accV := []) trivial hst g2
    rw [g5] at a1 g3
    obtain ⟨b0, aV', rfl, hw, har⟩ := xstR_cons a1
    have hsk : stv = aV'.reverse ++ b0 :: rV := by
      have := a3.symm
      simpa using this
    have hlen : aV'.length = (xu mi r1).2.2.1 := by
      rw [hu]
      have := a4
      simp at this
      exact this
    have hrc : ∃ b : Nat, b0 = .ref b ∧ ∃ cellB : Cell, H[b]? = some cellB ∧ cellB.vm.isStatics = false ∧ s.vm.findClass (nm r1).cls = some cellB.cls := by
      have g6 : xrcv u.2.2.2.1 h w = true := g6
      unfold xrcv at g6
      cases hw4 : Nat.beq w.1 4 with
      | true =>
        rw [hw4] at g6
        simp only [cond_true] at g6
        cases hq : xg h w.2 with
        | none => rw [hq] at g6; cases g6
        | some qo =>
          rw [hq] at g6
          obtain ⟨k1, k2⟩ := xand g6
          obtain ⟨a, ha, rfl⟩ := xden.own sv ex hw (xeqb hw4)
          obtain ⟨ee, he, hcr⟩ := xhR.at cl sv ex hh ha hq
          have ek : qo.1 = (xu mi r1).2.2.2.1 := by rw [hu]; exact xeqb k1
          have ek13 : (xu mi r1).2.2.2.1 < 13 := by rw [hu]; exact xltb k2
          obtain ⟨-, fs, e4, -, -⟩ := xcR.obj cl sv ex hcr (by rw [ek]; exact ek13)
          subst e4
          obtain ⟨rr, e1, e2⟩ := f4 ek13
          rw [← e2]
          exact ⟨a, rfl, va_recv hK hP (by rw [← ek] at e1; exact e1) he⟩
      | false =>
        rw [hw4] at g6
        simp only [cond_false] at g6
        obtain ⟨k1, k2⟩ := xand g6
        obtain ⟨k3, k4⟩ := xand k1
        have hv2 := xden.ext sv ex hw (xeqb k3)
        subst hv2
        rw [f5 (by rw [hu]; exact xeqb k2)]
        obtain ⟨cell, h1, h2, h3, -⟩ := (hEX.2.2.2.1 w.2 ((xor2 k4).imp xeqb xeqb)).1.kept hS.2.1
        exact ⟨ex w.2, rfl, cell, h1, h2, h3⟩
    obtain ⟨b, rfl, hcell⟩ := hrc
    refine xgo_fin E mok g3 (av := .ref b :: aV') ⟨hw, har⟩ a2 (fun d' M ed hmet h8 hroom => ?_)
    have hp := xpre E (av := .ref b :: aV')
    refine va_runV (As := aV') (rest := rV) (n := (xu mi r1).2.2.1) (C := (nm r1).cls) (bytes := bys r1) (maxL := (xu mi r1).2.2.2.2.2) (ret := rtt r1) ⟨hex, hb, hml, hown, hts⟩ hmet ⟨⟨rfl, rfl, by show d' + 1 ≤ _; omega, by have := mok.2.2.2.2.2.2; show 8 + ((xu mi r1).2.2.2.2.2 + 11) + 43 * d' ≤ _; omega, xpay hgw hts mok, List.mem_cons_self, hts _ mok.1, hts _ mok.2.1, ⟨mok.2.2.2.1, mok.2.2.2.2.1⟩, fun sig hsig => ?_, hts _ f1⟩, hts _ f2, hts _ f3⟩ ⟨hp.1, hcell, hp.2⟩ rfl hlen hl.1 hsk (lv_room h8) hdec hroom
    have hd := mok.2.2.2.2.2.1
    rw [hsig] at hd
    exact (Option.some.inj hd).symm
  | invokespecial i =>
    obtain ⟨rfl, f1, f2⟩ := hI
    have hx : cond (Nat.beq r2 6) (x_oin rec (pc + 3) y d ls st bx h n cn sn) (x_call mi rec (pc + 3) r1 y d ls st bx h n cn sn true false) = some L := hx
    cases h6 : Nat.beq r2 6 with
    | true =>
      rw [h6] at hx
      obtain ⟨w, r, rfl, g1, g2, g3, g⟩ := x_oin_ok hx
      obtain ⟨v, m1, rfl, hv, hr⟩ := xstR_cons hst
      obtain ⟨a, ha, rfl⟩ := xden.own sv ex hv g1
      obtain ⟨k1, k2, k3⟩ := f1 (xeqb h6)
      have h8 := lv_room (m := m) (pc := pc) (ls := la) (rest := .ref a :: m1) (st := m1) (by rw [xwds_ok sv ex hr]; exact g2)
      exact W.objInit hex hb hown (hts _ k1) (hts _ k2) (hts _ k3) (g := F0 m pc la (.ref a :: m1)) rfl (hl.1.trans hml.symm) rfl hdec (by omega) (by omega) (xk0 E g ⟨⟨lv, hl, hls⟩, hr⟩)
    | false =>
      rw [h6] at hx
      obtain ⟨mok, k1, k2, k3, k4, k5⟩ := f2 (xneb h6)
      obtain ⟨u, q, g1, g2, g3, g4⟩ := x_call_ok hx
      have hu := xu_of g1
      obtain ⟨w, l2, g5, g6⟩ := g4 rfl
      obtain ⟨aV, rV, a1, a2, a3, a4⟩ := xpop_ok sv ex _ (acc := []) (accV := []) trivial hst g2
      rw [g5] at a1 g3
      obtain ⟨b0, aV', rfl, hw, har⟩ := xstR_cons a1
      have hsk : stv = aV'.reverse ++ b0 :: rV := by
        have := a3.symm
        simpa using this
      have hlen : aV'.length = (xu mi r1).2.2.1 := by
        rw [hu]
        have := a4
        simp at this
        exact this
      obtain ⟨b, hab, rfl⟩ := xden.own sv ex hw (xeqb g6)
      refine xgo_fin E mok g3 (av := .ref b :: aV') ⟨hw, har⟩ a2 (fun d' M ed hmet h8 hroom => ?_)
      have hp := xpre E (av := .ref b :: aV')
      have hd := mok.2.2.2.2.2.1
      have hn : ∀ sig, parseMethodDescriptor (nm r1).desc = some sig → (xu mi r1).2.2.1 = sig.parameters.length := fun sig hsig => by
        rw [hsig] at hd
        exact (Option.some.inj hd).symm
      have hpay := xpay hgw hts mok
      have hcode := mok.1
      have hfr : d' + 1 ≤ R.frames := by omega
      have hlo : 8 + ((xu mi r1).2.2.2.2.2 + 11) + 43 * d' ≤ R.locals := by have := mok.2.2.2.2.2.2; omega
      rw [k1] at hmet hpay hcode
      by_cases h5 : r2 = 5
      · obtain ⟨host, hhost⟩ := k5 h5
        exact va_runIN (As := aV') (rest := rV) (n := (xu mi r1).2.2.1) (host := host) (bytes := bys r1) (maxL := (xu mi r1).2.2.2.2.2) ⟨hex, hb, hml, hown, hts⟩ hmet ⟨⟨⟨rfl, rfl, hfr, hlo, hpay, List.mem_cons_self⟩, hts _ hcode, hts _ mok.2.1, ⟨mok.2.2.2.1, mok.2.2.2.2.1⟩, hn, va_Nw.use rfl (hEX.2.2.2.2.2.1 _ hhost)⟩, k2, hts _ k3⟩ hp rfl hlen hl.1 hsk (lv_room h8) hdec hroom
      · exact va_runI (As := aV') (rest := rV) (n := (xu mi r1).2.2.1) (bytes := bys r1) (maxL := (xu mi r1).2.2.2.2.2) ⟨hex, hb, hml, hown, hts⟩ hmet ⟨⟨rfl, rfl, hfr, hlo, hpay, List.mem_cons_self, hts _ hcode, hts _ mok.2.1, ⟨mok.2.2.2.1, mok.2.2.2.2.1⟩, hn, hts _ (k4 h5)⟩, k2, hts _ k3⟩ hp rfl hlen hl.1 hsk (lv_room h8) hdec hroom
  | invokestatic i =>
    obtain ⟨rfl, f1, f2⟩ := hI
    have hx : cond (Nat.beq r2 8) (x_cpy rec (pc + 3) y d ls st bx h n cn sn) (x_call mi rec (pc + 3) r1 y d ls st bx h n cn sn false false) = some L := hx
    cases h6 : Nat.beq r2 8 with
    | true =>
      rw [h6] at hx
      obtain ⟨k1, k2, k3, k4⟩ := f1 (xeqb h6)
      obtain ⟨wm, vd, wb, vs, wa, r, mm, dp, sp, qa, qb, rfl, h1, h2, h3, ha4, hb4, hr8, hd1, hqa, hqb, hkd, hkd2, b1, b2, b3, b4, g⟩ := x_cpy_ok hx
      obtain ⟨vm1, m1, rfl, hvm1, hst'⟩ := xstR_cons hst
      obtain ⟨vd1, m2, rfl, hvd1, hst'⟩ := xstR_cons hst'
      obtain ⟨vb1, m3, rfl, hvb1, hst'⟩ := xstR_cons hst'
      obtain ⟨vs1, m4, rfl, hvs1, hst'⟩ := xstR_cons hst'
      obtain ⟨va1, m5, rfl, hva1, hr⟩ := xstR_cons hst'
      have e1 := xci_ok sv ex hbx hvm1 h1
      have e2 := xci_ok sv ex hbx hvd1 h2
      have e3 := xci_ok sv ex hbx hvs1 h3
      subst e1; subst e2; subst e3
      obtain ⟨a, haa, rfl⟩ := xden.own sv ex hva1 ha4
      obtain ⟨b, hbb, rfl⟩ := xden.own sv ex hvb1 hb4
      obtain ⟨ea, hea, hcra⟩ := xhR.at cl sv ex hh haa hqa
      obtain ⟨eb', heb, hcrb⟩ := xhR.at cl sv ex hh hbb hqb
      have c1 : (nI mm).toNatClampNeg = mm := nI_clamp (by omega)
      have c2 : (nI dp).toNatClampNeg = dp := nI_clamp (by omega)
      have c3 : (nI sp).toNatClampNeg = sp := nI_clamp (by omega)
      have hw8 : (m5.map fun v => v.category).sum + (nativeFrameWords "java/lang/System" "arraycopy" 5 + 11) ≤ R.locals := by
        rw [xwds_ok sv ex hr]
        have : nativeFrameWords "java/lang/System" "arraycopy" 5 = 7 := by decide +kernel
        omega
      rcases hkd with hkd | hkd
      · obtain ⟨cA, f, e1, e2, e3⟩ := xcR.a13 cl sv ex hcra hkd
        obtain ⟨cB, fb, e4, e5, e6⟩ := xcR.a13 cl sv ex hcrb (by omega)
        subst e1; subst e4
        obtain ⟨t, g1, g2, g3⟩ := xcp_ok mm sp dp qb.2.2 g (fun j j1 j2 => by obtain ⟨w3, a1, -⟩ := e6 j (by omega); exact ⟨w3, a1⟩)
        rw [xsK_eq] at g1
        have hK2 : va_K D cl [(cA, .int), (cB, .int)] s := (xK1 hK e2).app (xK1 hK e5)
        refine va_copyi hex hb (hml.trans hl.1.symm) hown (hts _ k1) (hts _ k2) (hts _ k3) (hts _ k4) hK2 hP hD hS wa.2 wb.2 0 1 hea heb rfl rfl rfl (nI_pos (by omega)) (nI_pos (by omega)) (nI_pos (by omega)) (by rw [c3, c1]; exact b1) (by rw [c2, c1]; exact b2) (fun _ _ => rfl) (by omega) hw8 hdec (fun H1 locs1 hP1 hD1 hS1 => ?_)
        rw [c1, c2, c3] at hP1 hD1
        refine xkk E g1 (fun _ z => z) (xle.rf _) hc hs ⟨hbx, xhR.set cl sv ex hh hbb hqb (Or.inr (Or.inl ⟨by show qb.1 = 13; omega, cB, _, rfl, e5, fun j hj => ?_⟩)), hP1, hD1, hS1⟩ ⟨⟨lv, hl, hls⟩, hr⟩
        have hj : j < qb.2.1 := hj
        by_cases hin : dp ≤ j ∧ j < dp + mm
        · obtain ⟨w3, a1, a2⟩ := e3 (sp + (j - dp)) (by omega)
          exact ⟨w3, by rw [show ((qb.1, qb.2.1, t) : xcell).2.2 = t from rfl, g2 j hin.1 hin.2]; exact a1, by rw [pk_cpy_in hin.1 hin.2]; exact a2⟩
        · obtain ⟨w3, a1, a2⟩ := e6 j hj
          exact ⟨w3, by rw [show ((qb.1, qb.2.1, t) : xcell).2.2 = t from rfl, g3 j (by omega)]; exact a1, by rw [pk_cpy_out (by omega)]; exact a2⟩
      · obtain ⟨cA, f, e1, e2, e3⟩ := xcR.a14 cl sv ex hcra hkd
        obtain ⟨cB, fb, e4, e5, e6⟩ := xcR.a14 cl sv ex hcrb (by omega)
        subst e1; subst e4
        obtain ⟨t, g1, g2, g3⟩ := xcp_ok mm sp dp qb.2.2 g (fun j j1 j2 => by obtain ⟨w3, a1, -⟩ := e6 j (by omega); exact ⟨w3, a1⟩)
        rw [xsK_eq] at g1
        have hK2 : va_K D cl [(cA, .long), (cB, .long)] s := (xK1 hK e2).app (xK1 hK e5)
        refine va_copyl hex hb (hml.trans hl.1.symm) hown (hts _ k1) (hts _ k2) (hts _ k3) (hts _ k4) hK2 hP hD hS wa.2 wb.2 0 1 hea heb rfl rfl rfl (nI_pos (by omega)) (nI_pos (by omega)) (nI_pos (by omega)) (by rw [c3, c1]; exact b1) (by rw [c2, c1]; exact b2) (fun _ _ => rfl) (by omega) hw8 hdec (fun H1 locs1 hP1 hD1 hS1 => ?_)
        rw [c1, c2, c3] at hP1 hD1
        refine xkk E g1 (fun _ z => z) (xle.rf _) hc hs ⟨hbx, xhR.set cl sv ex hh hbb hqb (Or.inr (Or.inr (Or.inl ⟨by show qb.1 = 14; omega, cB, _, rfl, e5, fun j hj => ?_⟩))), hP1, hD1, hS1⟩ ⟨⟨lv, hl, hls⟩, hr⟩
        have hj : j < qb.2.1 := hj
        by_cases hin : dp ≤ j ∧ j < dp + mm
        · obtain ⟨w3, a1, a2⟩ := e3 (sp + (j - dp)) (by omega)
          exact ⟨w3, by rw [show ((qb.1, qb.2.1, t) : xcell).2.2 = t from rfl, g2 j hin.1 hin.2]; exact a1, by rw [pk_cpy_in hin.1 hin.2]; exact a2⟩
        · obtain ⟨w3, a1, a2⟩ := e6 j hj
          exact ⟨w3, by rw [show ((qb.1, qb.2.1, t) : xcell).2.2 = t from rfl, g3 j (by omega)]; exact a1, by rw [pk_cpy_out (by omega)]; exact a2⟩
    | false =>
      rw [h6] at hx
      obtain ⟨mok, k1, k2⟩ := f2 (xneb h6)
      obtain ⟨u, q, g1, g2, g3, -⟩ := x_call_ok hx
      have hu := xu_of g1
      obtain ⟨aV, rV, a1, a2, a3, a4⟩ := xpop_ok sv ex _ (acc := []) (accV := []) trivial hst g2
      have hsk : stv = aV.reverse ++ rV := by
        have := a3.symm
        simpa using this
      have hlen : aV.length = (xu mi r1).2.2.1 := by
        rw [hu]
        have := a4
        simp at this
        exact this
      refine xgo_fin E mok g3 (av := aV) a1 a2 (fun d' M ed hmet h8 hroom => ?_)
      have hp := xpre E (av := aV)
      have hd := mok.2.2.2.2.2.1
      have hn : ∀ sig, parseMethodDescriptor (nm r1).desc = some sig → (xu mi r1).2.2.1 = sig.parameters.length := fun sig hsig => by
        rw [hsig] at hd
        exact (Option.some.inj hd).symm
      have hfr : d' + 1 ≤ R.frames := by omega
      have hlo : 8 + ((xu mi r1).2.2.2.2.2 + 11) + 43 * d' ≤ R.locals := by have := mok.2.2.2.2.2.2; omega
      exact va_runS (As := aV) (rest := rV) (n := (xu mi r1).2.2.1) (bytes := bys r1) (maxL := (xu mi r1).2.2.2.2.2) (ret := rtt r1) ⟨hex, hb, hml, hown, hts⟩ hmet ⟨⟨rfl, rfl, hfr, hlo, xpay hgw hts mok, List.mem_cons_self, hts _ mok.1, hts _ mok.2.1, ⟨mok.2.2.2.1, mok.2.2.2.2.1⟩, hn, hts _ k1⟩, hts _ k2⟩ hp rfl hlen hl.1 hsk (lv_room h8) hdec hroom
  | return_ =>
    obtain ⟨rfl, f1⟩ := hI
    obtain ⟨g1, rfl, rfl⟩ := x_ret_ok hx
    have := xstR_nil hst
    subst this
    exact hret (bx, h, n, none) List.mem_cons_self as ws H locs cn sn pc la none (xle.rf _) ⟨hbx, hh, hP, hD, hS⟩ hc hs (Or.inl ⟨f1 g1, rfl, rfl, hdec⟩)
  | ireturn =>
    obtain ⟨rfl, f1, f3, f4, f5⟩ := hI
    obtain ⟨w, rfl, g1, rfl⟩ := x_iret_ok hx
    obtain ⟨v, m1, rfl, hv, hr⟩ := xstR_cons hst
    have := xstR_nil hr
    subst this
    have key : ∃ (x : Int32) (ty : FieldType), v = .int x ∧ rtt y = some ty ∧ narrow ty (.int x) = .int x := by
      unfold xrok at g1
      split at g1
      · rename_i e1
        obtain ⟨x, rfl⟩ := xden.int sv ex hv (xeqb g1)
        exact ⟨x, .int, rfl, f1 e1, rfl⟩
      · rename_i e1
        obtain ⟨k1, k2⟩ := xand g1
        obtain ⟨t, k⟩ := w
        have e2 : t = 0 := xeqb k1
        subst e2
        have e3 : v = .int (nI k) := hv
        refine ⟨nI k, .boolean, e3, f3 e1, ?_⟩
        rcases nI_bool (xleb k2) with z | z <;> rw [z] <;> rfl
      · rename_i e1
        obtain ⟨k1, k2⟩ := xand g1
        obtain ⟨t, k⟩ := w
        have e2 : t = 0 := xeqb k1
        subst e2
        have e3 : v = .int (nI k) := hv
        exact ⟨nI k, .char, e3, f4 e1, xr1 (xltb k2)⟩
      · rename_i e1
        obtain ⟨k1, k2⟩ := xand g1
        obtain ⟨t, k⟩ := w
        have e2 : t = 0 := xeqb k1
        subst e2
        have e3 : v = .int (nI k) := hv
        exact ⟨nI k, .byte, e3, f5 e1, xr2 (xltb k2)⟩
      · cases g1
    obtain ⟨x, ty, rfl, e1, e2⟩ := key
    exact hret (bx, h, n, some w) List.mem_cons_self as ws H locs cn sn pc la (some (.int x)) (xle.rf _) ⟨hbx, hh, hP, hD, hS⟩ hc hs (Or.inr (Or.inl ⟨w, x, ty, e1, rfl, rfl, hv, e2, hdec⟩))
  | lreturn =>
    obtain ⟨rfl, f1⟩ := hI
    obtain ⟨w, rfl, g1, g2, rfl⟩ := x_lret_ok hx
    obtain ⟨v, m1, rfl, hv, hr⟩ := xstR_cons hst
    have := xstR_nil hr
    subst this
    obtain ⟨x, rfl⟩ := xden.long sv ex hv g2
    exact hret (bx, h, n, some w) List.mem_cons_self as ws H locs cn sn pc la (some (.long x)) (xle.rf _) ⟨hbx, hh, hP, hD, hS⟩ hc hs (Or.inr (Or.inr ⟨w, x, f1 g1, rfl, rfl, hv, hdec⟩))
  | _ => cases hg
set_option maxHeartbeats 4000000 in
theorem xstep_snd (hgw : xGood gw) (hOK : xOK cl nest txt ovr cd mi df bys nm rtt gw) (hrec : xSnd l D cl A sv ex el eb nest txt ovr mi bys nm rtt gw rec) : xSnd l D cl A sv ex el eb nest txt ovr mi bys nm rtt gw (xstep cd mi df el eb rec) := by
  intro y d pc ls st bx h n cn sn L hx p e R s m args below meth c Q as ws H locs la stv hC hc hs hw hf hr
  unfold xstep at hx
  cases ht : xg cd y with
  | none => rw [ht] at hx; cases hx
  | some t =>
    rw [ht] at hx
    dsimp only at hx
    cases he : xg t pc with
    | none => rw [he] at hx; cases hx
    | some e1 =>
      rw [he] at hx
      dsimp only at hx
      obtain ⟨len, hnx, hdec, hI⟩ := hOK y t pc e1 ht he
      have E : xStp l D cl A sv ex el eb nest txt ovr mi bys nm rtt gw rec y d ls st bx h n cn sn L p e R s m args below meth c Q as ws H locs la stv := ⟨hrec, hC, hc, hs, hw, hf, hr⟩
      rw [hnx] at hx
      generalize e1.1 = ins at hx hdec hI
      by_cases h1 : xg1 ins = true
      · exact xf1 E h1 hdec hI hx
      by_cases h2 : xg2 ins = true
      · exact xf2 E h2 hdec hI hx
      by_cases h3 : xg3 ins = true
      · exact xf3 E h3 hdec hI hx
      by_cases h4 : xg4 ins = true
      · exact xf4 E h4 hdec hI hx
      by_cases h5 : xg5 ins = true
      · exact xf5 E h5 hdec hI hx
      by_cases h6 : xg6 ins = true
      · exact xf6 hgw E h6 hdec hI hx
      exfalso
      cases ins <;> first | exact h1 rfl | exact h2 rfl | exact h3 rfl | exact h4 rfl | exact h5 rfl | exact h6 rfl | exact xnos hx
theorem xrun_snd (hgw : xGood gw) (hOK : xOK cl nest txt ovr cd mi df bys nm rtt gw) : ∀ f : Nat, xSnd l D cl A sv ex el eb nest txt ovr mi bys nm rtt gw (xrun cd mi df el eb f)
  | 0 => fun _ _ _ _ _ _ _ _ _ _ _ hx => (xnos hx).elim
  | f + 1 => xstep_snd hgw hOK (xrun_snd hgw hOK f)
end Go5
