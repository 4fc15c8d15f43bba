/-! The step keeps its promise: cells -/
section Inv3
variable {mi : xmi} {df : xdf} {el : Nat → Nat} {eb : Nat → List Nat} {rec : xF} {nx tg r1 r2 y d pc : Nat} {ls : List (Nat × xv)} {st : List xv} {bx : xbox} {h : xheap} {n c s : Nat} {L : List xleaf}
theorem x_get_ok (hx : x_get rec nx r1 r2 y d ls st bx h n c s = some L) : ∃ w r, st = w :: r ∧
    ((w.1 = 4 ∧ r1 < 13 ∧ ∃ q v, xg h w.2 = some q ∧ q.1 = r1 ∧ xg q.2.2 r2 = some v ∧ rec y d nx ls (v :: r) bx h n c s = some L) ∨
     (w.1 = 6 ∧ (w.2 = 1 ∨ w.2 = 3) ∧ r1 = 98 ∧ rec y d nx ls ((cond (Nat.beq r2 0) (6, w.2 + 1) (0, 0)) :: r) bx h n c s = some L)) := by
  unfold x_get at hx
  match st, hx with
  | [], hx => cases hx
  | w :: r, hx =>
    refine ⟨w, r, rfl, ?_⟩
    dsimp only at hx
    cases hw : Nat.beq w.1 4 with
    | true =>
      rw [hw] at hx
      simp only [cond_true] at hx
      cases hq : xg h w.2 with
      | none => rw [hq] at hx; cases hx
      | some q =>
        rw [hq] at hx
        obtain ⟨g1, g2⟩ := xcnd hx
        obtain ⟨g3, g4⟩ := xand g1
        cases hv : xg q.2.2 r2 with
        | none => rw [hv] at g2; cases g2
        | some v => rw [hv] at g2; exact Or.inl ⟨xeqb hw, xltb g4, q, v, rfl, xeqb g3, hv, g2⟩
    | false =>
      rw [hw] at hx
      simp only [cond_false] at hx
      obtain ⟨g1, g2⟩ := xcnd hx
      obtain ⟨g3, g4⟩ := xand g1
      obtain ⟨g5, g6⟩ := xand g3
      exact Or.inr ⟨xeqb g5, (xor2 g6).imp xeqb xeqb, xeqb g4, g2⟩
theorem x_put_ok (hx : x_put rec nx tg r1 r2 y d ls st bx h n c s = some L) : ∃ v w r q w0, st = v :: w :: r ∧ w.1 = 4 ∧ xfit tg v = true ∧ xg h w.2 = some q ∧ q.1 = r1 ∧ r2 < q.2.1 ∧ xg q.2.2 r2 = some w0 ∧ rec y d nx ls r bx (xw h w.2 (q.1, q.2.1, xw q.2.2 r2 v)) n c s = some L := by
  unfold x_put at hx
  match st, hx with
  | [], hx => cases hx
  | [_], hx => cases hx
  | v :: w :: r, hx =>
    obtain ⟨g1, g2⟩ := xcnd hx
    obtain ⟨g3, g4⟩ := xand g1
    cases hq : xg h w.2 with
    | none => rw [hq] at g2; cases g2
    | some q =>
      rw [hq] at g2
      obtain ⟨g5, g6⟩ := xcnd g2
      obtain ⟨g7, g8⟩ := xand g5
      cases hv : xg q.2.2 r2 with
      | none => rw [hv] at g6; cases g6
      | some w0 =>
        rw [hv] at g6
        dsimp only at g6
        rw [xsK_eq, xsK_eq] at g6
        exact ⟨v, w, r, q, w0, rfl, xeqb g3, g4, hq, xeqb g7, xltb g8, hv, g6⟩
theorem x_arr_ok {dk : Nat} (hx : x_arr mi rec nx r1 y d ls st bx h n c s dk = some L) : ∃ w r k, st = w :: r ∧ xci bx w = some k ∧ k ≤ 1048576 ∧ x_cell mi rec nx y d ls bx h n c s r1 k (xmk (xd0 dk) 20 0 k) r = some L := by
  unfold x_arr at hx
  match st, hx with
  | [], hx => cases hx
  | w :: r, hx =>
    dsimp only at hx
    cases hc : xci bx w with
    | none => rw [hc] at hx; cases hx
    | some k =>
      rw [hc] at hx
      obtain ⟨g1, g2⟩ := xcnd hx
      exact ⟨w, r, k, rfl, hc, xleb g1, g2⟩
theorem x_new_ok (hx : x_new mi df rec nx r1 y d ls st bx h n c s = some L) : ∃ q, xg df r1 = some q ∧ x_cell mi rec nx y d ls bx h n c s r1 q.1 q.2 st = some L := by
  unfold x_new at hx
  cases hq : xg df r1 with
  | none => rw [hq] at hx; cases hx
  | some q => rw [hq] at hx; exact ⟨q, rfl, hx⟩
theorem x_len_ok (hx : x_len el rec nx y d ls st bx h n c s = some L) : ∃ w r, st = w :: r ∧
    ((w.1 = 4 ∧ ∃ q, xg h w.2 = some q ∧ 13 ≤ q.1 ∧ rec y d nx ls ((0, q.2.1) :: r) bx h n c s = some L) ∨
     (w.1 = 6 ∧ (w.2 = 0 ∨ w.2 = 2 ∨ w.2 = 4) ∧ rec y d nx ls ((0, el w.2) :: r) bx h n c s = some L)) := by
  unfold x_len at hx
  match st, hx with
  | [], hx => cases hx
  | w :: r, hx =>
    refine ⟨w, r, rfl, ?_⟩
    dsimp only at hx
    cases hw : Nat.beq w.1 4 with
    | true =>
      rw [hw] at hx
      simp only [cond_true] at hx
      cases hq : xg h w.2 with
      | none => rw [hq] at hx; cases hx
      | some q =>
        rw [hq] at hx
        obtain ⟨g1, g2⟩ := xcnd hx
        exact Or.inl ⟨xeqb hw, q, rfl, xleb g1, g2⟩
    | false =>
      rw [hw] at hx
      simp only [cond_false] at hx
      obtain ⟨g1, g2⟩ := xcnd hx
      obtain ⟨g3, g4⟩ := xand g1
      exact Or.inr ⟨xeqb g3, (xor2 g4).imp xeqb (fun z => (xor2 z).imp xeqb xeqb), g2⟩
theorem x_ald_ok {kd : Nat} (hx : x_ald el eb rec nx y d pc ls st bx h n c s kd = some L) : ∃ i w r, st = i :: w :: r ∧
    ((∃ x, xci bx i = some x ∧ x < 2147483648 ∧
      ((w.1 = 4 ∧ ∃ q v, xg h w.2 = some q ∧ (q.1 = kd ∨ (kd = 20 ∧ 20 ≤ q.1)) ∧ x < q.2.1 ∧ xg q.2.2 x = some v ∧ rec y d nx ls (v :: r) bx h n c s = some L) ∨
       (w.1 = 6 ∧ w.2 = 0 ∧ kd = 13 ∧ x < el 0 ∧ rec y d nx ls ((1, x) :: r) bx h n c s = some L) ∨
       (w.1 = 6 ∧ (w.2 = 2 ∨ w.2 = 4) ∧ kd = 15 ∧ x < el w.2 ∧ rec y d nx ls ((0, (eb w.2).getD x 0) :: r) bx h n c s = some L))) ∨
     (∃ j q, xspl (fun bx' => rec y d pc ls st bx' h n c s) bx j q = some L)) := by
  unfold x_ald at hx
  match st, hx with
  | [], hx => cases hx
  | [_], hx => cases hx
  | i :: w :: r, hx =>
    refine ⟨i, w, r, rfl, ?_⟩
    rcases x_ix_ok hx with ⟨x, h1, h2, h3⟩ | hs
    · refine Or.inl ⟨x, h1, h2, ?_⟩
      cases hw : Nat.beq w.1 4 with
      | true =>
        rw [hw] at h3
        simp only [cond_true] at h3
        cases hq : xg h w.2 with
        | none => rw [hq] at h3; cases h3
        | some q =>
          rw [hq] at h3
          obtain ⟨g1, g2⟩ := xcnd h3
          obtain ⟨g3, g4⟩ := xand g1
          cases hv : xg q.2.2 x with
          | none => rw [hv] at g2; cases g2
          | some v =>
            rw [hv] at g2
            refine Or.inl ⟨xeqb hw, q, v, rfl, ?_, xltb g4, hv, g2⟩
            rcases xor2 g3 with g | g
            · exact Or.inl (xeqb g)
            · exact Or.inr ⟨xeqb (xand g).1, xleb (xand g).2⟩
      | false =>
        rw [hw] at h3
        simp only [cond_false] at h3
        cases hb : (Nat.beq w.1 6 && Nat.beq w.2 0 && Nat.beq kd 13 && Nat.blt x (el 0)) with
        | true =>
          rw [hb] at h3
          obtain ⟨g1, g2⟩ := xand hb
          obtain ⟨g3, g4⟩ := xand g1
          obtain ⟨g5, g6⟩ := xand g3
          exact Or.inr (Or.inl ⟨xeqb g5, xeqb g6, xeqb g4, xltb g2, h3⟩)
        | false =>
          rw [hb] at h3
          simp only [cond_false] at h3
          obtain ⟨hb, h3⟩ := xcnd h3
          obtain ⟨g1, g2⟩ := xand hb
          obtain ⟨g3, g4⟩ := xand g1
          obtain ⟨g5, g6⟩ := xand g3
          exact Or.inr (Or.inr ⟨xeqb g5, (xor2 g6).imp xeqb xeqb, xeqb g4, xltb g2, h3⟩)
    · exact Or.inr hs
theorem x_ast_ok {kd : Nat} (hx : x_ast rec nx y d pc ls st bx h n c s kd = some L) : ∃ v i w r, st = v :: i :: w :: r ∧
    ((∃ x q, xci bx i = some x ∧ x < 2147483648 ∧ w.1 = 4 ∧ xfit (cond (Nat.beq kd 14) 1 0) v = true ∧ xg h w.2 = some q ∧ q.1 = kd ∧ x < q.2.1 ∧ rec y d nx ls r bx (xw h w.2 (q.1, q.2.1, xw q.2.2 x (cond (Nat.beq kd 15) (xb8 v) v))) n c s = some L) ∨
     (∃ j q, xspl (fun bx' => rec y d pc ls st bx' h n c s) bx j q = some L)) := by
  unfold x_ast at hx
  match st, hx with
  | [], hx => cases hx
  | [_], hx => cases hx
  | [_, _], hx => cases hx
  | v :: i :: w :: r, hx =>
    refine ⟨v, i, w, r, rfl, ?_⟩
    rcases x_ix_ok hx with ⟨x, h1, h2, h3⟩ | hs
    · obtain ⟨g1, g2⟩ := xcnd h3
      obtain ⟨g3, g4⟩ := xand g1
      cases hq : xg h w.2 with
      | none => rw [hq] at g2; cases g2
      | some q =>
        rw [hq] at g2
        obtain ⟨g5, g6⟩ := xcnd g2
        obtain ⟨g7, g8⟩ := xand g5
        rw [xsK_eq, xsK_eq] at g6
        exact Or.inl ⟨x, q, h1, h2, xeqb g3, g4, rfl, xeqb g7, xltb g8, g6⟩
    · exact Or.inr hs
theorem x_aas_ok (hx : x_aas rec nx y d pc ls st bx h n c s = some L) : ∃ v i w r, st = v :: i :: w :: r ∧
    ((∃ x q e, xci bx i = some x ∧ x < 2147483648 ∧ w.1 = 4 ∧ v.1 = 4 ∧ xg h w.2 = some q ∧ xg h v.2 = some e ∧ e.1 < 13 ∧ q.1 = 20 + e.1 ∧ x < q.2.1 ∧ rec y d nx ls r bx (xw h w.2 (q.1, q.2.1, xw q.2.2 x v)) n c s = some L) ∨
     (∃ j q, xspl (fun bx' => rec y d pc ls st bx' h n c s) bx j q = some L)) := by
  unfold x_aas at hx
  match st, hx with
  | [], hx => cases hx
  | [_], hx => cases hx
  | [_, _], hx => cases hx
  | v :: i :: w :: r, hx =>
    refine ⟨v, i, w, r, rfl, ?_⟩
    rcases x_ix_ok hx with ⟨x, h1, h2, h3⟩ | hs
    · obtain ⟨g1, g2⟩ := xcnd h3
      obtain ⟨g3, g4⟩ := xand g1
      cases hq : xg h w.2 with
      | none => rw [hq] at g2; cases g2
      | some q =>
        rw [hq] at g2
        dsimp only at g2
        cases he : xg h v.2 with
        | none => rw [he] at g2; cases g2
        | some e =>
          rw [he] at g2
          obtain ⟨g5, g6⟩ := xcnd g2
          obtain ⟨g7, g8⟩ := xand g5
          obtain ⟨g9, g10⟩ := xand g7
          rw [xsK_eq, xsK_eq] at g6
          exact Or.inl ⟨x, q, e, h1, h2, xeqb g3, xeqb g4, rfl, rfl, xltb g9, xeqb g10, xltb g8, g6⟩
    · exact Or.inr hs
end Inv3
theorem xmk_20 {α : Type} (v : α) {k j : Nat} (hk : k ≤ 1048576) (hj : j < k) : xg (xmk v 20 0 k) j = some v := xmk_get v 20 0 k j (by omega) (Nat.zero_le _) (by omega)
section Go3
variable {l : Launch} {D : va_G} {cl : List vw_C} {A : Nat → Prop} {sv : Nat → Int32} {ex : Nat → Nat} {el : Nat → Nat} {eb : Nat → List Nat} {nest : List (String × Nat × MethodName × String)} {txt : Nat → String × Nat × String} {ovr : List String}
variable {mi : xmi} {df : xdf} {bys : Nat → ByteArray} {nm : Nat → MethodName} {rtt : Nat → Option FieldType} {gw : List Cond}
variable {rec : xF} {y d pc : Nat} {ls : List (Nat × xv)} {st : List xv} {bx : xbox} {h : xheap} {n cn sn : Nat} {L : List xleaf}
variable {p : Program} {e : Env} {R : Room} {s : State} {m : MethodId} {args : Array Value} {below : List Frame} {meth : Method} {c : Code} {Q : State → Prop} {as : List Nat} {ws : va_W} {H : Heap} {locs : List Loc} {la : Array Slot} {stv : List Value}
theorem xK1 {cA : ClassId} {ty : FieldType} (hK : va_K D cl [] s) (h : xaT s cA ty) : va_K D cl [(cA, ty)] s := by
  refine ⟨hK.1, fun k q hk => ?_⟩
  have hk0 : k = 0 := by
    have := (List.getElem?_eq_some_iff.mp hk).1
    simp at this; exact this
  subst hk0
  cases hk
  exact h
theorem xK1' {cA : ClassId} {ty : FieldType} (hK : va_K D cl ([] ++ [(cA, ty)]) s) : xaT s cA ty := hK.2 0 _ rfl
/-- an element set -/
theorem xset13 {as : List Nat} {k m : Nat} {t : xct} {f : Nat → Int32} {x : Nat} {w : xv} {v : Int32} (hf : ∀ j : Nat, j < m → ∃ w : xv, xg t j = some w ∧ xden sv ex as w (.int (f j))) (hx : x < m) (hv : xden sv ex as w (.int v)) : ∀ j : Nat, j < m → ∃ w' : xv, xg (xw t x w) j = some w' ∧ xden sv ex as w' (.int (upd f x v j)) := by
  intro j hj
  by_cases e : j = x
  · subst e
    obtain ⟨w0, q1, q2⟩ := hf j hj
    exact ⟨w, xg_self t j w w0 q1, by rw [pk_us]; exact hv⟩
  · obtain ⟨w0, q1, q2⟩ := hf j hj
    exact ⟨w0, by rw [xg_other t x j w e]; exact q1, by rw [pk_un e]; exact q2⟩
theorem xset14 {as : List Nat} {m : Nat} {t : xct} {f : Nat → Int64} {x : Nat} {w : xv} {v : Int64} (hf : ∀ j : Nat, j < m → ∃ w : xv, xg t j = some w ∧ xden sv ex as w (.long (f j))) (hv : xden sv ex as w (.long v)) : ∀ j : Nat, j < m → ∃ w' : xv, xg (xw t x w) j = some w' ∧ xden sv ex as w' (.long (vp_updL f x v j)) := by
  intro j hj
  by_cases e : j = x
  · subst e
    obtain ⟨w0, q1, q2⟩ := hf j hj
    exact ⟨w, xg_self t j w w0 q1, by rw [pk_uLs]; exact hv⟩
  · obtain ⟨w0, q1, q2⟩ := hf j hj
    exact ⟨w0, by rw [xg_other t x j w e]; exact q1, by rw [pk_uLn e]; exact q2⟩
theorem xset20 {as : List Nat} {m : Nat} {t : xct} {f : Nat → Option Nat} {x : Nat} {w : xv} {v : Option Nat} (hf : ∀ j : Nat, j < m → ∃ w : xv, xg t j = some w ∧ xden sv ex as w (va_rf (f j))) (hv : xden sv ex as w (va_rf v)) : ∀ j : Nat, j < m → ∃ w' : xv, xg (xw t x w) j = some w' ∧ xden sv ex as w' (va_rf (va_up f x v j)) := by
  intro j hj
  by_cases e : j = x
  · subst e
    obtain ⟨w0, q1, q2⟩ := hf j hj
    exact ⟨w, xg_self t j w w0 q1, by unfold va_up; rw [if_pos rfl]; exact hv⟩
  · obtain ⟨w0, q1, q2⟩ := hf j hj
    exact ⟨w0, by rw [xg_other t x j w e]; exact q1, by unfold va_up; rw [if_neg e]; exact q2⟩
def xg4 : Instr → Bool
  | .getfield _ => true
  | .putfield _ => true
  | .getstatic _ => true
  | .new _ => true
  | .newarray _ => true
  | .anewarray _ => true
  | .arraylength => true
  | _ => false
set_option maxHeartbeats 4000000 in
theorem xf4 (E : xStp l D cl A sv ex el eb nest txt ovr mi bys nm rtt gw rec y d ls st bx h n cn sn L p e R s m args below meth c Q as ws H locs la stv) {ins : Instr} {len tg r1 r2 : Nat} (hg : xg4 ins = true) (hdec : decode (bys y) pc = .ok (ins, len)) (hI : xI cl nest txt ovr mi df bys nm rtt gw y pc ins len tg r1 r2)
    (hx : xex mi df el eb rec ins (pc + len) tg r1 r2 y d pc ls st bx h n cn sn = some L) : W p l e R s m args below meth c H locs cn sn Q (F0 m pc la stv) := by
  obtain ⟨hrec, ⟨hex, hb, hml, hown, hts, hK, hEX, hA, hnm, hRf, hRl, hRc, hRs⟩, hc, hs, ⟨hbx, hh, hP, hD, hS⟩, ⟨hl, hst⟩, hret⟩ := id E
  cases ins with
  | getfield i =>
    obtain ⟨rfl, hI1, hI2⟩ := hI
    obtain ⟨w, r, rfl, g⟩ := x_get_ok hx
    obtain ⟨v, m1, rfl, hv, hr⟩ := xstR_cons hst
    rcases g with ⟨k1, k2, q, v2, q1, q2, q3, g⟩ | ⟨k1, k2, k3, g⟩
    · obtain ⟨a, ha, rfl⟩ := xden.own sv ex hv k1
      obtain ⟨ee, he, hcr⟩ := xhR.at cl sv ex hh ha q1
      obtain ⟨C, T, N, f1, f2, f3, f4⟩ := hI1 k2
      obtain ⟨⟨rr, e1, e2⟩, fs, e3, e4, e5⟩ := xcR.obj cl sv ex hcr (by rw [q2]; exact k2)
      subst e3
      have e6 : rr = (C, T, N) := Option.some.inj (e1.symm.trans (by rw [q2]; exact f1))
      subst e6
      have e2' : N = q.2.1 := e2
      obtain ⟨w3, v3, a1, a2, a3⟩ := e5 r2 (by rw [← e2']; exact f2)
      have a4 : w3 = v2 := Option.some.inj (a1.symm.trans q3)
      subst a4
      rw [q2] at he
      exact va_get hex hb hts f4 hown hK hP w.2 he f1 r2 f2 (hts _ f3) (fun _ z => z) a2 hdec (xk0 E g ⟨hl, a3, hr⟩)
    · have hv2 := xden.ext sv ex hv k1
      subst hv2
      obtain ⟨-, -, -, dd, -⟩ := hEX
      obtain ⟨d1, d2, d3, d4⟩ := dd w.2 k2
      cases hq : Nat.beq r2 0 with
      | true =>
        rw [hq] at g
        exact vk_getf hex hb d3 hS hown (hts _ ((hI2 k3).1 (xeqb hq))) (fun _ z => z) hdec (xk0 E g ⟨hl, rfl, hr⟩)
      | false =>
        rw [hq] at g
        exact vk_getf hex hb d2 hS hown (hts _ ((hI2 k3).2 (xneb hq))) (fun _ z => z) hdec (xk0 E g ⟨hl, rfl, hr⟩)
  | putfield i =>
    obtain ⟨rfl, hk13, C, T, N, ty, f1, f2, f3, f4, f5, f6, f7, f8⟩ := hI
    obtain ⟨v, w, r, q, w0, rfl, k1, k2, q1, q2, q3, q4, g⟩ := x_put_ok hx
    obtain ⟨vv, m1, rfl, hv, hst⟩ := xstR_cons hst
    obtain ⟨wv, m2, rfl, hw, hr⟩ := xstR_cons hst
    obtain ⟨a, ha, rfl⟩ := xden.own sv ex hw k1
    obtain ⟨ee, he, hcr⟩ := xhR.at cl sv ex hh ha q1
    have hq13 : q.1 < 13 := by rw [q2]; exact hk13
    obtain ⟨hrr, fs, e3, e4, e5⟩ := xcR.obj cl sv ex hcr hq13
    subst e3
    obtain ⟨n1, n2⟩ := xfit_ok hv (ty := ty r2) (by rw [f7]; exact k2)
    have hnew : xcR cl sv ex s as (q.1, q.2.1, xw q.2.2 r2 v) (.inr (q.1, fs.set r2 vv)) := by
      refine Or.inl ⟨hq13, hrr, fs.set r2 vv, rfl, by rw [List.length_set]; exact e4, fun j hj => ?_⟩
      by_cases ej : j = r2
      · subst ej
        exact ⟨v, vv, xg_self _ _ _ _ q4, List.getElem?_set_self (by rw [e4]; exact q3), hv⟩
      · obtain ⟨w3, v3, a1, a2, a3⟩ := e5 j hj
        exact ⟨w3, v3, by rw [show (q.1, q.2.1, xw q.2.2 r2 v).2.2 = xw q.2.2 r2 v from rfl, xg_other _ _ _ _ ej]; exact a1, by rw [List.getElem?_set_ne (Ne.symm ej)]; exact a2, a3⟩
    have hh' := xhR.set cl sv ex hh ha q1 hnew
    have he' : ws[w.2]? = some (a, .inr (r1, fs)) := by rw [q2] at he; exact he
    rw [q2] at hh'
    rw [q2] at g
    cases hfin : (T r2).2.2.2 with
    | false =>
      exact va_put hex hb hts f4 ty f5 f6 hown hK hP hD hS w.2 he' f1 r2 f2 (hts _ f3) (fun _ z => z) hfin (f5 r2 f2) n1 n2 (by rw [e4]; exact q3) hdec
        (fun H1 locs1 hP1 hD1 hS1 => xkk E g (fun _ z => z) (xle.rf _) hc hs ⟨hbx, hh', hP1, hD1, hS1⟩ ⟨hl, hr⟩)
    | true =>
      obtain ⟨b1, b2⟩ := f8 hfin
      exact va_putF hex hb hts f4 ty f5 f6 hown hK hP hD hS w.2 he' f1 r2 f2 (hts _ f3) (fun _ z => z) hfin (hnm.trans b1) b2 (f5 r2 f2) n1 n2 (by rw [e4]; exact q3) hdec
        (fun H1 locs1 hP1 hD1 hS1 => xkk E g (fun _ z => z) (xle.rf _) hc hs ⟨hbx, hh', hP1, hD1, hS1⟩ ⟨hl, hr⟩)
  | getstatic i =>
    obtain ⟨rfl, hI1, hI2⟩ := hI
    have hx : cond (Nat.beq r1 0) (rec y d (pc + 3) ls ((0, 1) :: st) bx h n cn sn) (rec y d (pc + 3) ls ((10, 0) :: st) bx h n cn sn) = some L := hx
    cases hq : Nat.beq r1 0 with
    | true =>
      rw [hq] at hx
      exact va_gets hex hb hEX.2.1 hS hown (hts _ (hI1 (xeqb hq))) (fun _ z => z) hdec (xk0 E hx ⟨hl, rfl, hst⟩)
    | false =>
      rw [hq] at hx
      rcases hEX.2.2.1 with hz | ⟨t, hz⟩
      · exact va_gets hex hb hz hS hown (hts _ (hI2 (xneb hq))) (fun _ z => z) hdec (xk0 E hx ⟨hl, Or.inl rfl, hst⟩)
      · exact va_gets hex hb hz hS hown (hts _ (hI2 (xneb hq))) (fun _ z => z) hdec (xk0 E hx ⟨hl, Or.inr ⟨t, rfl⟩, hst⟩)
  | new i =>
    obtain ⟨rfl, C, T, N, ty, q, f1, f2, f3, f4, f5, f6, f7, f8, f9, f10⟩ := hI
    obtain ⟨q', g1, g⟩ := x_new_ok hx
    have eq : q' = q := Option.some.inj (g1.symm.trans f8)
    subst eq
    obtain ⟨u, q0, g2, g3, g4, g5, g⟩ := x_cell_ok g
    have hu := xu_of g2
    rw [← hu] at g3 g4
    have hdv : ∀ j, j < N → defaultValue (ty j) = vp_V ((List.range N).map (fun j => defaultValue (ty j))) j := by
      intro j hj
      unfold vp_V
      simp [List.getD, hj]
    rw [f9] at g g4
    refine va_new (ci := r1) (fs := (List.range N).map (fun j => defaultValue (ty j))) hex hb hts f3 ty f4 hown (hts _ f5) (hts _ f6) (hts _ f7) hK hP hD hS hA f1 hdv (by omega) (by omega) hdec (fun a H1 hP1 hD1 hS1 => ?_)
    have hnew : xcR cl sv ex s (as ++ [a]) (r1, N, q'.2) (.inr (r1, (List.range N).map (fun j => defaultValue (ty j)))) := by
      refine Or.inl ⟨f2, ⟨_, f1, rfl⟩, _, rfl, by simp, fun j hj => ?_⟩
      obtain ⟨w3, a1, a2⟩ := f10 j hj
      exact ⟨w3, defaultValue (ty j), a1, by rw [List.getElem?_map, List.getElem?_range hj]; rfl, xdv_ok a2⟩
    have hlen := hh.1
    refine xkk E g (fun _ z => z) (xle.push as a) (by omega) (by omega) ⟨hbx, xhR.push cl sv ex hh g5 hnew, hP1, hD1, hS1⟩ ⟨?_, ?_, xstR.mono sv ex (xle.push as a) hst⟩
    · obtain ⟨lv, h1, h2⟩ := hl
      exact ⟨lv, h1, xlsR.mono sv ex (xle.push as a) h2⟩
    · exact ⟨a, by rw [← hlen, List.getElem?_append_right (Nat.le_refl _), Nat.sub_self]; rfl, rfl⟩
  | newarray at_ =>
    obtain ⟨rfl, f1, f2⟩ := hI
    obtain ⟨w, r, k, rfl, g1, g2, g⟩ := x_arr_ok hx
    obtain ⟨u, q0, g3, g4, g5, g6, g⟩ := x_cell_ok g
    have hu := xu_of g3
    rw [← hu] at g4 g5
    obtain ⟨vv, m1, rfl, hv, hr⟩ := xstR_cons hst
    have e1 := xci_ok sv ex hbx hv g1
    subst e1
    have hlen := hh.1
    have hfin : ∀ (a : Nat) (ee : va_E) (H1 : Heap), xcR cl sv ex s (as ++ [a]) (r1, k, xmk (xd0 r2) 20 0 k) ee → va_P D cl (ws ++ [(a, ee)]) H1 → va_D A (ws ++ [(a, ee)]) → va_S A s.heap H1 locs → W p l e R s m args below meth c H1 locs (cn + 1) (sn + k) Q (F0 m (pc + 2) la (.ref a :: m1)) := by
      intro a ee H1 hnew hP1 hD1 hS1
      refine xkk E g (fun _ z => z) (xle.push as a) (by omega) (by omega) ⟨hbx, xhR.push cl sv ex hh g6 hnew, hP1, hD1, hS1⟩ ⟨?_, ?_, xstR.mono sv ex (xle.push as a) hr⟩
      · obtain ⟨lv, h1, h2⟩ := hl
        exact ⟨lv, h1, xlsR.mono sv ex (xle.push as a) h2⟩
      · exact ⟨a, by rw [← hlen, List.getElem?_append_right (Nat.le_refl _), Nat.sub_self]; rfl, rfl⟩
    have hclamp : (nI k).toNatClampNeg = k := nI_clamp (by omega)
    rcases f2 with ⟨rfl, rfl, rfl⟩ | ⟨rfl, rfl, rfl⟩ | ⟨rfl, rfl, rfl⟩
    · refine va_newa (a0 := (k, .inl (fun _ => 0))) hex hb (hts _ f1) (ty := .int) rfl hK hP hD hS hA (fun cA => rfl) (nI_pos (by omega)) hclamp (by show k * 4 ≤ _; omega) (by omega) (by omega) hdec (fun a cA H1 hK1 hP1 hD1 hS1 => hfin a _ H1 ?_ hP1 hD1 hS1)
      exact Or.inr (Or.inl ⟨rfl, cA, _, rfl, xK1' hK1, fun j (hj : j < k) => ⟨(0, 0), xmk_20 _ g2 hj, rfl⟩⟩)
    · refine va_newa (a0 := (k, .inr (.inl (fun _ => 0)))) hex hb (hts _ f1) (ty := .long) rfl hK hP hD hS hA (fun cA => rfl) (nI_pos (by omega)) hclamp (by show k * 8 ≤ _; omega) (by omega) (by omega) hdec (fun a cA H1 hK1 hP1 hD1 hS1 => hfin a _ H1 ?_ hP1 hD1 hS1)
      exact Or.inr (Or.inr (Or.inl ⟨rfl, cA, _, rfl, xK1' hK1, fun j (hj : j < k) => ⟨(2, 0), xmk_20 _ g2 hj, rfl⟩⟩))
    · refine va_newa (a0 := (k, .inl (fun _ => 0))) hex hb (hts _ f1) (ty := .byte) rfl hK hP hD hS hA (fun cA => rfl) (nI_pos (by omega)) hclamp (by show k * 1 ≤ _; omega) (by omega) (by omega) hdec (fun a cA H1 hK1 hP1 hD1 hS1 => hfin a _ H1 ?_ hP1 hD1 hS1)
      exact Or.inr (Or.inr (Or.inr (Or.inl ⟨rfl, cA, _, rfl, xK1' hK1, fun j (hj : j < k) => ⟨(0, 0), xmk_20 _ g2 hj, rfl⟩⟩)))
  | anewarray i =>
    obtain ⟨rfl, f0, rr, f1, f2, f3⟩ := hI
    obtain ⟨w, r, k, rfl, g1, g2, g⟩ := x_arr_ok hx
    obtain ⟨u, q0, g3, g4, g5, g6, g⟩ := x_cell_ok g
    have hu := xu_of g3
    rw [← hu] at g4 g5
    obtain ⟨vv, m1, rfl, hv, hr⟩ := xstR_cons hst
    have e1 := xci_ok sv ex hbx hv g1
    subst e1
    have hlen := hh.1
    have hclamp : (nI k).toNatClampNeg = k := nI_clamp (by omega)
    refine va_newq hex hb hown (hts _ f2) (hEX.2.2.2.2.2.2 _ f3) hK hP hD hS hA (nI_pos (by omega)) hclamp (by omega) (by omega) (by omega) hdec (fun a cA H1 hK1 hP1 hD1 hS1 => ?_)
    have hnew : xcR cl sv ex s (as ++ [a]) (r1, k, xmk (xd0 2) 20 0 k) (.inl (cA, k, .inr (.inr (.inr (.inr (fun _ => none)))))) :=
      Or.inr (Or.inr (Or.inr (Or.inr ⟨f0, cA, rr, _, f1, rfl, xK1' hK1, fun j (hj : j < k) => ⟨(5, 0), xmk_20 _ g2 hj, rfl⟩⟩)))
    refine xkk E g (fun _ z => z) (xle.push as a) (by omega) (by omega) ⟨hbx, xhR.push cl sv ex hh g6 hnew, hP1, hD1, hS1⟩ ⟨?_, ?_, xstR.mono sv ex (xle.push as a) hr⟩
    · obtain ⟨lv, h1, h2⟩ := hl
      exact ⟨lv, h1, xlsR.mono sv ex (xle.push as a) h2⟩
    · exact ⟨a, by rw [← hlen, List.getElem?_append_right (Nat.le_refl _), Nat.sub_self]; rfl, rfl⟩
  | arraylength =>
    obtain rfl : len = 1 := hI
    obtain ⟨w, r, rfl, g⟩ := x_len_ok hx
    obtain ⟨v, m1, rfl, hv, hr⟩ := xstR_cons hst
    rcases g with ⟨k1, q, q1, q2, g⟩ | ⟨k1, k2, g⟩
    · obtain ⟨a, ha, rfl⟩ := xden.own sv ex hv k1
      obtain ⟨ee, he, hcr⟩ := xhR.at cl sv ex hh ha q1
      obtain ⟨cA, x, ty, e1, e2, e3⟩ := xcR.arr cl sv ex hcr q2
      subst e1
      exact va_alen hex hb (xK1 hK e3) hP w.2 0 he rfl (v := nI q.2.1) (by rw [e2]; rfl) hdec (xk0 E g ⟨hl, rfl, hr⟩)
    · have hv2 := xden.ext sv ex hv k1
      subst hv2
      have key : ∀ i : Nat, i = 1 ∨ i = 3 → w.2 = i + 1 → W p l e R s m args below meth c H locs cn sn Q (F0 m pc la (.ref (ex w.2) :: m1)) := by
        intro i hi k2
        rw [k2] at g ⊢
        obtain ⟨cell, h1, h2, h3, h4, h5, h6, h7⟩ := (hEX.2.2.2.1 i hi).2.2.2
        exact W.alen (n := Int32.ofNat (el (i + 1))) hex hb (by rw [hS.2.1 (ex (i + 1)) (Array.getElem?_eq_some_iff.mp h1).1 h7]; exact h1) h2 h5 rfl rfl hdec (xk0 E g ⟨hl, rfl, hr⟩)
      rcases k2 with k2 | k2 | k2
      · rw [k2] at g ⊢
        exact va_slen hex hb hEX.1.1 hEX.1.2.1 hEX.1.2.2 hS hdec (xk0 E g ⟨hl, rfl, hr⟩)
      · exact key 1 (Or.inl rfl) k2
      · exact key 3 (Or.inr rfl) k2
  | _ => cases hg
end Go3
