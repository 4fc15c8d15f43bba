/-! The step keeps its promise: arrays, calls, answers; and the whole -/
section Inv4
variable {mi : xmi} {rec : xF} {nx y d pc : Nat} {ls : List (Nat × xv)} {st : List xv} {bx : xbox} {h : xheap} {n c s : Nat} {L : List xleaf}
theorem xcp_ok {t1 : xct} {β : Type} {L : β} {k : xct → Option β} : ∀ (m sp dp : Nat) (t2 : xct), xcp t1 m sp dp t2 k = some L → (∀ j : Nat, dp ≤ j → j < dp + m → ∃ w : xv, xg t2 j = some w) →
    ∃ t : xct, k t = some L ∧ (∀ j : Nat, dp ≤ j → j < dp + m → xg t j = xg t1 (sp + (j - dp))) ∧ (∀ j : Nat, (j < dp ∨ dp + m ≤ j) → xg t j = xg t2 j)
  | 0, sp, dp, t2, h, _ => ⟨t2, h, fun j h1 h2 => by omega, fun j _ => rfl⟩
  | m + 1, sp, dp, t2, h, hs => by
    unfold xcp at h
    cases hw : xg t1 sp with
    | none => rw [hw] at h; cases h
    | some w =>
      rw [hw] at h
      dsimp only at h
      rw [xsK_eq] at h
      obtain ⟨w0, hw0⟩ := hs dp (Nat.le_refl _) (by omega)
      obtain ⟨t, g1, g2, g3⟩ := xcp_ok m (sp + 1) (dp + 1) (xw t2 dp w) h (fun j h1 h2 => by
        obtain ⟨w1, hw1⟩ := hs j (by omega) (by omega)
        exact ⟨w1, by rw [xg_other t2 dp j w (by omega)]; exact hw1⟩)
      refine ⟨t, g1, fun j h1 h2 => ?_, fun j hj => ?_⟩
      · by_cases e : j = dp
        · subst e
          rw [g3 j (Or.inl (by omega)), xg_self t2 j w w0 hw0, Nat.sub_self, Nat.add_zero, hw]
        · rw [g2 j (by omega) (by omega)]
          congr 1
          omega
      · rw [g3 j (by omega), xg_other t2 dp j w (by omega)]
theorem x_cpy_ok (hx : x_cpy rec nx y d ls st bx h n c s = some L) : ∃ wm vd b vs a r m dp sp qa qb, st = wm :: vd :: b :: vs :: a :: r ∧ xci bx wm = some m ∧ xci bx vd = some dp ∧ xci bx vs = some sp ∧ a.1 = 4 ∧ b.1 = 4 ∧ xwds r ≤ 8 ∧ 1 ≤ d ∧ xg h a.2 = some qa ∧ xg h b.2 = some qb ∧ (qa.1 = 13 ∨ qa.1 = 14) ∧ qb.1 = qa.1 ∧ sp + m ≤ qa.2.1 ∧ dp + m ≤ qb.2.1 ∧ sp + m < 2147483648 ∧ dp + m < 2147483648 ∧
    xcp qa.2.2 m sp dp qb.2.2 (fun t => xsK h b.2 (qb.1, qb.2.1, t) (fun h' => rec y d nx ls r bx h' n c s)) = some L := by
  unfold x_cpy at hx
  match st, hx with
  | [], hx => cases hx
  | [_], hx => cases hx
  | [_, _], hx => cases hx
  | [_, _, _], hx => cases hx
  | [_, _, _, _], hx => cases hx
  | wm :: vd :: b :: vs :: a :: r, hx =>
    dsimp only at hx
    cases h1 : xci bx wm with
    | none => rw [h1] at hx; cases hx
    | some m =>
      rw [h1] at hx
      dsimp only at hx
      cases h2 : xci bx vd with
      | none => rw [h2] at hx; cases hx
      | some dp =>
        rw [h2] at hx
        dsimp only at hx
        cases h3 : xci bx vs with
        | none => rw [h3] at hx; cases hx
        | some sp =>
          rw [h3] at hx
          obtain ⟨g1, g2⟩ := xcnd hx
          obtain ⟨g3, g4⟩ := xand g1
          obtain ⟨g5, g6⟩ := xand g3
          obtain ⟨g7, g8⟩ := xand g5
          cases hqa : xg h a.2 with
          | none => rw [hqa] at g2; cases g2
          | some qa =>
            rw [hqa] at g2
            dsimp only at g2
            cases hqb : xg h b.2 with
            | none => rw [hqb] at g2; cases g2
            | some qb =>
              rw [hqb] at g2
              obtain ⟨k1, k2⟩ := xcnd g2
              obtain ⟨k3, k4⟩ := xand k1
              obtain ⟨k5, k6⟩ := xand k3
              obtain ⟨k7, k8⟩ := xand k5
              obtain ⟨k9, k10⟩ := xand k7
              obtain ⟨k11, k12⟩ := xand k9
              exact ⟨wm, vd, b, vs, a, r, m, dp, sp, qa, qb, rfl, h1, h2, h3, xeqb g7, xeqb g8, xleb g6, xleb g4, hqa, hqb, (xor2 k11).imp xeqb xeqb, xeqb k12, xleb k10, xleb k8, xltb k6, xltb k4, k2⟩
theorem x_oin_ok (hx : x_oin rec nx y d ls st bx h n c s = some L) : ∃ w r, st = w :: r ∧ w.1 = 4 ∧ xwds r ≤ 8 ∧ 1 ≤ d ∧ rec y d nx ls r bx h n c s = some L := by
  unfold x_oin at hx
  match st, hx with
  | [], hx => cases hx
  | w :: r, hx =>
    obtain ⟨g1, g2⟩ := xcnd hx
    obtain ⟨g3, g4⟩ := xand g1
    obtain ⟨g5, g6⟩ := xand g3
    exact ⟨w, r, rfl, xeqb g5, xleb g6, xleb g4, g2⟩
theorem x_ret_ok (hx : x_ret mi y st bx h n = some L) : (xu mi y).2.2.2.2.1 = 0 ∧ st = [] ∧ L = [(bx, h, n, none)] := by
  unfold x_ret at hx
  cases hq : xg mi y with
  | none => rw [hq] at hx; cases hx
  | some q =>
    rw [hq] at hx
    dsimp only at hx
    rw [xu_of hq]
    split at hx
    · rename_i e
      split at hx
      · exact ⟨e, rfl, (Option.some.inj hx).symm⟩
      · cases hx
    · cases hx
theorem x_iret_ok (hx : x_iret mi y st bx h n = some L) : ∃ w, st = [w] ∧ xrok (xu mi y).2.2.2.2.1 w = true ∧ L = [(bx, h, n, some w)] := by
  unfold x_iret at hx
  cases hq : xg mi y with
  | none => rw [hq] at hx; cases hx
  | some q =>
    rw [hq] at hx
    dsimp only at hx
    rw [xu_of hq]
    split at hx
    · obtain ⟨g1, g2⟩ := xcnd hx
      exact ⟨_, rfl, g1, (Option.some.inj g2).symm⟩
    · cases hx
theorem x_lret_ok (hx : x_lret mi y st bx h n = some L) : ∃ w, st = [w] ∧ (xu mi y).2.2.2.2.1 = 2 ∧ xkd w.1 = 1 ∧ L = [(bx, h, n, some w)] := by
  unfold x_lret at hx
  cases hq : xg mi y with
  | none => rw [hq] at hx; cases hx
  | some q =>
    rw [hq] at hx
    dsimp only at hx
    rw [xu_of hq]
    split at hx
    · rename_i e
      split at hx
      · obtain ⟨g1, g2⟩ := xcnd hx
        exact ⟨_, rfl, e, xeqb g1, (Option.some.inj g2).symm⟩
      · cases hx
    · cases hx
end Inv4
theorem xin {x N : Nat} (h1 : x < 2147483648) (h2 : x < N) : vp_in (nI x) N := fun q => q.elim (nI_pos (by omega)) (fun z => by rw [nI_clamp (by omega)] at z; omega)
theorem xb8_ok {sv : Nat → Int32} {ex : Nat → Nat} {as : List Nat} : ∀ {w : xv} {z : Int32}, xden sv ex as w (.int z) → xden sv ex as (xb8 w) (.int z.toInt8.toInt32)
  | (0, k), z, h => by
    have e2 : z = nI k := Value.int.inj h
    subst e2
    show Value.int _ = Value.int (nI (xnu _))
    rw [nI_xnu]
  | (_ + 1, _), z, _ => ⟨_, rfl⟩
section Go4
variable {l : Launch} {D : va_G} {cl : List vw_C} {A : Nat → Prop} {sv : Nat → Int32} {ex : Nat → Nat} {el : Nat → Nat} {eb : Nat → List Nat} {nest : List (String × Nat × MethodName × String)} {txt : Nat → String × Nat × String} {ovr : List String}
variable {mi : xmi} {df : xdf} {bys : Nat → ByteArray} {nm : Nat → MethodName} {rtt : Nat → Option FieldType} {gw : List Cond}
variable {rec : xF} {y d pc : Nat} {ls : List (Nat × xv)} {st : List xv} {bx : xbox} {h : xheap} {n cn sn : Nat} {L : List xleaf}
variable {p : Program} {e : Env} {R : Room} {s : State} {m : MethodId} {args : Array Value} {below : List Frame} {meth : Method} {c : Code} {Q : State → Prop} {as : List Nat} {ws : va_W} {H : Heap} {locs : List Loc} {la : Array Slot} {stv : List Value}
def xg5 : Instr → Bool
  | .iaload => true
  | .laload => true
  | .baload => true
  | .aaload => true
  | .iastore => true
  | .lastore => true
  | .bastore => true
  | .aastore => true
  | _ => false
set_option maxHeartbeats 4000000 in
theorem xf5 (E : xStp l D cl A sv ex el eb nest txt ovr mi bys nm rtt gw rec y d ls st bx h n cn sn L p e R s m args below meth c Q as ws H locs la stv) {ins : Instr} {len tg r1 r2 : Nat} (hg : xg5 ins = true) (hdec : decode (bys y) pc = .ok (ins, len)) (hI : xI cl nest txt ovr mi df bys nm rtt gw y pc ins len tg r1 r2)
    (hx : xex mi df el eb rec ins (pc + len) tg r1 r2 y d pc ls st bx h n cn sn = some L) : W p l e R s m args below meth c H locs cn sn Q (F0 m pc la stv) := by
  obtain ⟨hrec, ⟨hex, hb, hml, hown, hts, hK, hEX, hA, hnm, hRf, hRl, hRc, hRs⟩, hc, hs, ⟨hbx, hh, hP, hD, hS⟩, ⟨hl, hst⟩, hret⟩ := id E
  cases ins with
  | iaload =>
    obtain rfl : len = 1 := hI
    obtain ⟨i, w, r, rfl, g⟩ := x_ald_ok hx
    rcases g with ⟨x, q1, q2, g⟩ | ⟨j, q, g⟩
    · obtain ⟨vi, m1, rfl, hvi, hst'⟩ := xstR_cons hst
      obtain ⟨vw, m2, rfl, hvw, hr⟩ := xstR_cons hst'
      have e1 := xci_ok sv ex hbx hvi q1
      subst e1
      have hcl : (nI x).toNatClampNeg = x := nI_clamp (by omega)
      rcases g with ⟨k1, q, v, g1, g2, g3, g4, g⟩ | ⟨k1, k2, k3, k4, g⟩ | ⟨k1, k2, k3, k4, g⟩
      · obtain ⟨a, ha, rfl⟩ := xden.own sv ex hvw k1
        obtain ⟨ee, he, hcr⟩ := xhR.at cl sv ex hh ha g1
        obtain ⟨cA, f, e1, e2, e3⟩ := xcR.a13 cl sv ex hcr (by omega)
        subst e1
        refine va_iald hex hb (xK1 hK e2) hP w.2 0 he rfl (xin q2 g3) hdec ?_
        rw [hcl]
        obtain ⟨w3, a1, a2⟩ := e3 x g3
        have a4 : w3 = v := Option.some.inj (a1.symm.trans g4)
        subst a4
        exact xk0 E g ⟨hl, a2, hr⟩
      · have hv2 := xden.ext sv ex hvw k1
        rw [k2] at hv2
        subst hv2
        refine va_sld hex hb hEX.1.1 hEX.1.2.1 hEX.1.2.2 hS (xin q2 k4) hdec ?_
        rw [hcl]
        exact xk0 E g ⟨hl, rfl, hr⟩
      · cases k3
    · exact xksp E g
  | laload =>
    obtain rfl : len = 1 := hI
    obtain ⟨i, w, r, rfl, g⟩ := x_ald_ok hx
    rcases g with ⟨x, q1, q2, g⟩ | ⟨j, q, g⟩
    · obtain ⟨vi, m1, rfl, hvi, hst'⟩ := xstR_cons hst
      obtain ⟨vw, m2, rfl, hvw, hr⟩ := xstR_cons hst'
      have e1 := xci_ok sv ex hbx hvi q1
      subst e1
      have hcl : (nI x).toNatClampNeg = x := nI_clamp (by omega)
      rcases g with ⟨k1, q, v, g1, g2, g3, g4, g⟩ | ⟨k1, k2, k3, k4, g⟩ | ⟨k1, k2, k3, k4, g⟩
      · obtain ⟨a, ha, rfl⟩ := xden.own sv ex hvw k1
        obtain ⟨ee, he, hcr⟩ := xhR.at cl sv ex hh ha g1
        obtain ⟨cA, f, e1, e2, e3⟩ := xcR.a14 cl sv ex hcr (by omega)
        subst e1
        refine va_lald hex hb (xK1 hK e2) hP w.2 0 he rfl (xin q2 g3) hdec ?_
        rw [hcl]
        obtain ⟨w3, a1, a2⟩ := e3 x g3
        have a4 : w3 = v := Option.some.inj (a1.symm.trans g4)
        subst a4
        exact xk0 E g ⟨hl, a2, hr⟩
      · cases k3
      · cases k3
    · exact xksp E g
  | baload =>
    obtain rfl : len = 1 := hI
    obtain ⟨i, w, r, rfl, g⟩ := x_ald_ok hx
    rcases g with ⟨x, q1, q2, g⟩ | ⟨j, q, g⟩
    · obtain ⟨vi, m1, rfl, hvi, hst'⟩ := xstR_cons hst
      obtain ⟨vw, m2, rfl, hvw, hr⟩ := xstR_cons hst'
      have e1 := xci_ok sv ex hbx hvi q1
      subst e1
      have hcl : (nI x).toNatClampNeg = x := nI_clamp (by omega)
      rcases g with ⟨k1, q, v, g1, g2, g3, g4, g⟩ | ⟨k1, k2, k3, k4, g⟩ | ⟨k1, k2, k3, k4, g⟩
      · obtain ⟨a, ha, rfl⟩ := xden.own sv ex hvw k1
        obtain ⟨ee, he, hcr⟩ := xhR.at cl sv ex hh ha g1
        obtain ⟨cA, f, e1, e2, e3⟩ := xcR.a15 cl sv ex hcr (by omega)
        subst e1
        refine va_bald hex hb (xK1 hK e2) hP w.2 0 he rfl (xin q2 g3) hdec ?_
        rw [hcl]
        obtain ⟨w3, a1, a2⟩ := e3 x g3
        have a4 : w3 = v := Option.some.inj (a1.symm.trans g4)
        subst a4
        exact xk0 E g ⟨hl, a2, hr⟩
      · cases k3
      · have hv2 := xden.ext sv ex hvw k1
        subst hv2
        have key : ∀ i : Nat, i = 1 ∨ i = 3 → w.2 = i + 1 → W p l e R s m args below meth c H locs cn sn Q (F0 m pc la (.int (nI x) :: .ref (ex w.2) :: m2)) := by
          intro i hi k2
          rw [k2] at g k4 ⊢
          refine va_tb hex hb (hEX.2.2.2.1 i hi).2.2.2 hS (xin q2 k4) (v := .int (nI ((eb (i + 1)).getD x 0))) (by rw [hcl]) hdec ?_
          exact xk0 E g ⟨hl, rfl, hr⟩
        rcases k2 with k2 | k2
        · exact key 1 (Or.inl rfl) k2
        · exact key 3 (Or.inr rfl) k2
    · exact xksp E g
  | aaload =>
    obtain rfl : len = 1 := hI
    obtain ⟨i, w, r, rfl, g⟩ := x_ald_ok hx
    rcases g with ⟨x, q1, q2, g⟩ | ⟨j, q, g⟩
    · obtain ⟨vi, m1, rfl, hvi, hst'⟩ := xstR_cons hst
      obtain ⟨vw, m2, rfl, hvw, hr⟩ := xstR_cons hst'
      have e1 := xci_ok sv ex hbx hvi q1
      subst e1
      have hcl : (nI x).toNatClampNeg = x := nI_clamp (by omega)
      rcases g with ⟨k1, q, v, g1, g2, g3, g4, g⟩ | ⟨k1, k2, k3, k4, g⟩ | ⟨k1, k2, k3, k4, g⟩
      · obtain ⟨a, ha, rfl⟩ := xden.own sv ex hvw k1
        obtain ⟨ee, he, hcr⟩ := xhR.at cl sv ex hh ha g1
        obtain ⟨cA, rr, f, e0, e1, e2, e3⟩ := xcR.a20 cl sv ex hcr (by omega)
        subst e1
        refine va_aldq hex hb (xK1 hK e2) hP w.2 0 he rfl (xin q2 g3) hdec ?_
        rw [hcl]
        obtain ⟨w3, a1, a2⟩ := e3 x g3
        have a4 : w3 = v := Option.some.inj (a1.symm.trans g4)
        subst a4
        exact xk0 E g ⟨hl, a2, hr⟩
      · cases k3
      · cases k3
    · exact xksp E g
  | iastore =>
    obtain rfl : len = 1 := hI
    obtain ⟨v, i, w, r, rfl, g⟩ := x_ast_ok hx
    rcases g with ⟨x, q, q1, q2, k1, k2, g1, g2, g3, g⟩ | ⟨j, q, g⟩
    · obtain ⟨vv, m0, rfl, hvv, hst'⟩ := xstR_cons hst
      obtain ⟨vi, m1, rfl, hvi, hst'⟩ := xstR_cons hst'
      obtain ⟨vw, m2, rfl, hvw, hr⟩ := xstR_cons hst'
      have e1 := xci_ok sv ex hbx hvi q1
      subst e1
      have hcl : (nI x).toNatClampNeg = x := nI_clamp (by omega)
      obtain ⟨z, rfl⟩ := xden.int sv ex hvv (xeqb k2)
      obtain ⟨a, ha, rfl⟩ := xden.own sv ex hvw k1
      obtain ⟨ee, he, hcr⟩ := xhR.at cl sv ex hh ha g1
      obtain ⟨cA, f, e1, e2, e3⟩ := xcR.a13 cl sv ex hcr g2
      subst e1
      refine va_iast hex hb (xK1 hK e2) hP hD hS w.2 0 he rfl (xin q2 g3) hdec (fun H1 locs1 hP1 hD1 hS1 => ?_)
      rw [hcl] at hP1 hD1
      exact xkk E g (fun _ z => z) (xle.rf _) hc hs ⟨hbx, xhR.set cl sv ex hh ha g1 (Or.inr (Or.inl ⟨g2, cA, _, rfl, e2, xset13 (k := 0) e3 g3 hvv⟩)), hP1, hD1, hS1⟩ ⟨hl, hr⟩
    · exact xksp E g
  | lastore =>
    obtain rfl : len = 1 := hI
    obtain ⟨v, i, w, r, rfl, g⟩ := x_ast_ok hx
    rcases g with ⟨x, q, q1, q2, k1, k2, g1, g2, g3, g⟩ | ⟨j, q, g⟩
    · obtain ⟨vv, m0, rfl, hvv, hst'⟩ := xstR_cons hst
      obtain ⟨vi, m1, rfl, hvi, hst'⟩ := xstR_cons hst'
      obtain ⟨vw, m2, rfl, hvw, hr⟩ := xstR_cons hst'
      have e1 := xci_ok sv ex hbx hvi q1
      subst e1
      have hcl : (nI x).toNatClampNeg = x := nI_clamp (by omega)
      obtain ⟨z, rfl⟩ := xden.long sv ex hvv (xeqb k2)
      obtain ⟨a, ha, rfl⟩ := xden.own sv ex hvw k1
      obtain ⟨ee, he, hcr⟩ := xhR.at cl sv ex hh ha g1
      obtain ⟨cA, f, e1, e2, e3⟩ := xcR.a14 cl sv ex hcr g2
      subst e1
      refine va_last hex hb (xK1 hK e2) hP hD hS w.2 0 he rfl (xin q2 g3) hdec (fun H1 locs1 hP1 hD1 hS1 => ?_)
      rw [hcl] at hP1 hD1
      exact xkk E g (fun _ z => z) (xle.rf _) hc hs ⟨hbx, xhR.set cl sv ex hh ha g1 (Or.inr (Or.inr (Or.inl ⟨g2, cA, _, rfl, e2, xset14 e3 hvv⟩))), hP1, hD1, hS1⟩ ⟨hl, hr⟩
    · exact xksp E g
  | bastore =>
    obtain rfl : len = 1 := hI
    obtain ⟨v, i, w, r, rfl, g⟩ := x_ast_ok hx
    rcases g with ⟨x, q, q1, q2, k1, k2, g1, g2, g3, g⟩ | ⟨j, q, g⟩
    · obtain ⟨vv, m0, rfl, hvv, hst'⟩ := xstR_cons hst
      obtain ⟨vi, m1, rfl, hvi, hst'⟩ := xstR_cons hst'
      obtain ⟨vw, m2, rfl, hvw, hr⟩ := xstR_cons hst'
      have e1 := xci_ok sv ex hbx hvi q1
      subst e1
      have hcl : (nI x).toNatClampNeg = x := nI_clamp (by omega)
      obtain ⟨z, rfl⟩ := xden.int sv ex hvv (xeqb k2)
      obtain ⟨a, ha, rfl⟩ := xden.own sv ex hvw k1
      obtain ⟨ee, he, hcr⟩ := xhR.at cl sv ex hh ha g1
      obtain ⟨cA, f, e1, e2, e3⟩ := xcR.a15 cl sv ex hcr g2
      subst e1
      refine va_bast hex hb (xK1 hK e2) hP hD hS w.2 0 he rfl (xin q2 g3) hdec (fun H1 locs1 hP1 hD1 hS1 => ?_)
      rw [hcl] at hP1 hD1
      exact xkk E g (fun _ z => z) (xle.rf _) hc hs ⟨hbx, xhR.set cl sv ex hh ha g1 (Or.inr (Or.inr (Or.inr (Or.inl ⟨g2, cA, _, rfl, e2, xset13 (k := 0) e3 g3 (xb8_ok hvv)⟩)))), hP1, hD1, hS1⟩ ⟨hl, hr⟩
    · exact xksp E g
  | aastore =>
    obtain rfl : len = 1 := hI
    obtain ⟨v, i, w, r, rfl, g⟩ := x_aas_ok hx
    rcases g with ⟨x, q, eo, q1, q2, k1, k2, g1, g2, g3, g4, g5, g⟩ | ⟨j, q, g⟩
    · obtain ⟨vv, m0, rfl, hvv, hst'⟩ := xstR_cons hst
      obtain ⟨vi, m1, rfl, hvi, hst'⟩ := xstR_cons hst'
      obtain ⟨vw, m2, rfl, hvw, hr⟩ := xstR_cons hst'
      have e1 := xci_ok sv ex hbx hvi q1
      subst e1
      have hcl : (nI x).toNatClampNeg = x := nI_clamp (by omega)
      have hvv0 := hvv
      obtain ⟨b, hb2, rfl⟩ := xden.own sv ex hvv k2
      obtain ⟨a, ha, rfl⟩ := xden.own sv ex hvw k1
      obtain ⟨ee, he, hcr⟩ := xhR.at cl sv ex hh ha g1
      obtain ⟨ef, he2, hcr2⟩ := xhR.at cl sv ex hh hb2 g2
      obtain ⟨cA, rr, f, e0, e1, e2, e3⟩ := xcR.a20 cl sv ex hcr (by omega)
      subst e1
      obtain ⟨-, fs, e4, -, -⟩ := xcR.obj cl sv ex hcr2 g3
      subst e4
      have e0' : cl[eo.1]? = some rr := by rw [← e0]; congr 1; omega
      refine va_astq hex hb (xK1 hK e2) hP hD hS w.2 0 v.2 eo.1 he rfl he2 e0' (xin q2 g5) hdec (fun H1 locs1 hP1 hD1 hS1 => ?_)
      rw [hcl] at hP1 hD1
      exact xkk E g (fun _ z => z) (xle.rf _) hc hs ⟨hbx, xhR.set cl sv ex hh ha g1 (Or.inr (Or.inr (Or.inr (Or.inr ⟨by show 20 ≤ q.1; omega, cA, rr, _, e0, rfl, e2, xset20 (v := some b) e3 hvv0⟩)))), hP1, hD1, hS1⟩ ⟨hl, hr⟩
    · exact xksp E g
  | _ => cases hg
end Go4
