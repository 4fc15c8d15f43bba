/-! The step keeps its promise: frames, arithmetic -/
section Go
variable {l : Launch} {D : va_G} {cl : List vw_C} {A : Nat → Prop} {sv : Nat → Int32} {ex : Nat → Nat} {el : Nat → Nat} {eb : Nat → List Nat} {nest : List (String × Nat × MethodName × String)} {txt : Nat → String × Nat × String} {ovr : List String}
variable {mi : xmi} {df : xdf} {bys : Nat → ByteArray} {nm : Nat → MethodName} {rtt : Nat → Option FieldType} {gw : List Cond}
variable {rec : xF} {y d pc : Nat} {ls : List (Nat × xv)} {st : List xv} {bx : xbox} {h : xheap} {n cn sn : Nat} {L : List xleaf}
variable {p : Program} {e : Env} {R : Room} {s : State} {m : MethodId} {args : Array Value} {below : List Frame} {meth : Method} {c : Code} {Q : State → Prop} {as : List Nat} {ws : va_W} {H : Heap} {locs : List Loc} {la : Array Slot} {stv : List Value}
def xStp (l : Launch) (D : va_G) (cl : List vw_C) (A : Nat → Prop) (sv : Nat → Int32) (ex : Nat → Nat) (el : Nat → Nat) (eb : Nat → List Nat) (nest : List (String × Nat × MethodName × String)) (txt : Nat → String × Nat × String) (ovr : List String) (mi : xmi) (bys : Nat → ByteArray) (nm : Nat → MethodName) (rtt : Nat → Option FieldType) (gw : List Cond) (rec : xF) (y d : Nat) (ls : List (Nat × xv)) (st : List xv) (bx : xbox) (h : xheap) (n cn sn : Nat) (L : List xleaf)
    (p : Program) (e : Env) (R : Room) (s : State) (m : MethodId) (args : Array Value) (below : List Frame) (meth : Method) (c : Code) (Q : State → Prop) (as : List Nat) (ws : va_W) (H : Heap) (locs : List Loc) (la : Array Slot) (stv : List Value) : Prop :=
  xSnd l D cl A sv ex el eb nest txt ovr mi bys nm rtt gw rec ∧ xCtx D cl A sv ex el eb nest txt ovr mi bys nm gw y d p R s m args meth c ∧ cn ≤ (xu mi y).1 ∧ sn ≤ (xu mi y).2.1 ∧ xWorld D cl A sv ex s as bx h n ws H locs ∧ xFrm sv ex as (xu mi y).2.2.2.2.2 ls st la stv ∧ xRet l D cl A sv ex mi bys rtt y L p e R s m args below meth c Q as
theorem xkk (E : xStp l D cl A sv ex el eb nest txt ovr mi bys nm rtt gw rec y d ls st bx h n cn sn L p e R s m args below meth c Q as ws H locs la stv) {pc' : Nat} {ls' : List (Nat × xv)} {st' : List xv} {bx' : xbox} {h' : xheap} {n' cn' sn' : Nat} {L' : List xleaf} (hr : rec y d pc' ls' st' bx' h' n' cn' sn' = some L') (hL : ∀ q ∈ L', q ∈ L) {as' : List Nat} {ws' : va_W} {H' : Heap} {locs' : List Loc} {la' : Array Slot} {stv' : List Value}
    (hle : xle as as') (hc : cn' ≤ (xu mi y).1) (hs : sn' ≤ (xu mi y).2.1) (hw : xWorld D cl A sv ex s as' bx' h' n' ws' H' locs') (hf : xFrm sv ex as' (xu mi y).2.2.2.2.2 ls' st' la' stv') : W p l e R s m args below meth c H' locs' cn' sn' Q (F0 m pc' la' stv') :=
  E.1 y d pc' ls' st' bx' h' n' cn' sn' L' hr p e R s m args below meth c Q as' ws' H' locs' la' stv' E.2.1 hc hs hw hf (fun q hq as2 ws2 H2 locs2 cn2 sn2 pc2 la2 rv2 hle2 => E.2.2.2.2.2.2 q (hL q hq) as2 ws2 H2 locs2 cn2 sn2 pc2 la2 rv2 (hle.tr hle2))
theorem xk0 (E : xStp l D cl A sv ex el eb nest txt ovr mi bys nm rtt gw rec y d ls st bx h n cn sn L p e R s m args below meth c Q as ws H locs la stv) {pc' : Nat} {ls' : List (Nat × xv)} {st' : List xv} (hr : rec y d pc' ls' st' bx h n cn sn = some L) {la' : Array Slot} {stv' : List Value}
    (hf : xFrm sv ex as (xu mi y).2.2.2.2.2 ls' st' la' stv') : W p l e R s m args below meth c H locs cn sn Q (F0 m pc' la' stv') :=
  xkk E hr (fun _ q => q) (xle.rf _) E.2.2.1 E.2.2.2.1 E.2.2.2.2.1 hf
theorem xksp (E : xStp l D cl A sv ex el eb nest txt ovr mi bys nm rtt gw rec y d ls st bx h n cn sn L p e R s m args below meth c Q as ws H locs la stv) {i q : Nat} (hx : xspl (fun bx' => rec y d pc ls st bx' h n cn sn) bx i q = some L) : W p l e R s m args below meth c H locs cn sn Q (F0 m pc la stv) := by
  obtain ⟨hbx, hh, hP, hD, hS⟩ := E.2.2.2.2.1
  obtain ⟨bx', L', g1, g2, g3⟩ := xspl_ok hbx hx
  exact xkk E g2 g3 (xle.rf _) E.2.2.1 E.2.2.2.1 ⟨g1, hh, hP, hD, hS⟩ E.2.2.2.2.2.1
/-- an int operation of two -/
theorem xbi_go (E : xStp l D cl A sv ex el eb nest txt ovr mi bys nm rtt gw rec y d ls st bx h n cn sn L p e R s m args below meth c Q as ws H locs la stv) {nx : Nat} {f : Nat → Nat → Nat} {F : Int32 → Int32 → Int32} (hx : x_bi rec nx y d ls st bx h n cn sn f = some L) (hF : ∀ a b, nI (f a b) = F (nI a) (nI b))
    (row : ∀ (x z : Int32) (rest : List Value), W p l e R s m args below meth c H locs cn sn Q (F0 m nx la (.int (F x z) :: rest)) → W p l e R s m args below meth c H locs cn sn Q (F0 m pc la (.int z :: .int x :: rest))) : W p l e R s m args below meth c H locs cn sn Q (F0 m pc la stv) := by
  obtain ⟨b, a, r, rfl, k1, k2, g⟩ := x_bi_ok hx
  have hbx := E.2.2.2.2.1.1
  obtain ⟨hl, hst⟩ := E.2.2.2.2.2.1
  obtain ⟨vb, m1, rfl, hvb, hst⟩ := xstR_cons hst
  obtain ⟨va, m2, rfl, hva, hr⟩ := xstR_cons hst
  obtain ⟨z, rfl⟩ := xden.int sv ex hvb k1
  obtain ⟨x, rfl⟩ := xden.int sv ex hva k2
  refine row x z m2 ?_
  rcases g with ⟨x', z', q1, q2, q3⟩ | g
  · have e1 : x = nI x' := Value.int.inj (xci_ok sv ex hbx hva q1)
    have e2 : z = nI z' := Value.int.inj (xci_ok sv ex hbx hvb q2)
    subst e1; subst e2
    exact xk0 E q3 ⟨hl, by show Value.int _ = Value.int _; rw [hF], hr⟩
  · exact xk0 E g ⟨hl, ⟨_, rfl⟩, hr⟩
theorem xdv_go (E : xStp l D cl A sv ex el eb nest txt ovr mi bys nm rtt gw rec y d ls st bx h n cn sn L p e R s m args below meth c Q as ws H locs la stv) {nx : Nat} {f : Nat → Nat → Nat} {F : Int32 → Int32 → Int32} (hx : x_dv rec nx y d ls st bx h n cn sn f = some L) (hF : ∀ a b, nI (f a b) = F (nI a) (nI b))
    (row : ∀ (x z : Int32) (rest : List Value), ¬ z = 0 → W p l e R s m args below meth c H locs cn sn Q (F0 m nx la (.int (F x z) :: rest)) → W p l e R s m args below meth c H locs cn sn Q (F0 m pc la (.int z :: .int x :: rest))) : W p l e R s m args below meth c H locs cn sn Q (F0 m pc la stv) := by
  obtain ⟨b, a, r, x, z, rfl, q1, q2, hz, g⟩ := x_dv_ok hx
  have hbx := E.2.2.2.2.1.1
  obtain ⟨hl, hst⟩ := E.2.2.2.2.2.1
  obtain ⟨vb, m1, rfl, hvb, hst⟩ := xstR_cons hst
  obtain ⟨va, m2, rfl, hva, hr⟩ := xstR_cons hst
  have e1 := xci_ok sv ex hbx hva q1
  have e2 := xci_ok sv ex hbx hvb q2
  subst e1; subst e2
  refine row _ _ m2 (nI_z hz) ?_
  exact xk0 E g ⟨hl, by show Value.int _ = Value.int _; rw [hF], hr⟩
theorem xbl_go (E : xStp l D cl A sv ex el eb nest txt ovr mi bys nm rtt gw rec y d ls st bx h n cn sn L p e R s m args below meth c Q as ws H locs la stv) {nx : Nat} {f : Nat → Nat → Nat} {F : Int64 → Int64 → Int64} (hx : x_bl rec nx y d ls st bx h n cn sn f = some L) (hF : ∀ a b, lN (f a b) = F (lN a) (lN b))
    (row : ∀ (x z : Int64) (rest : List Value), W p l e R s m args below meth c H locs cn sn Q (F0 m nx la (.long (F x z) :: rest)) → W p l e R s m args below meth c H locs cn sn Q (F0 m pc la (.long z :: .long x :: rest))) : W p l e R s m args below meth c H locs cn sn Q (F0 m pc la stv) := by
  obtain ⟨b, a, r, rfl, k1, k2, g⟩ := x_bl_ok hx
  have hbx := E.2.2.2.2.1.1
  obtain ⟨hl, hst⟩ := E.2.2.2.2.2.1
  obtain ⟨vb, m1, rfl, hvb, hst⟩ := xstR_cons hst
  obtain ⟨va, m2, rfl, hva, hr⟩ := xstR_cons hst
  obtain ⟨z, rfl⟩ := xden.long sv ex hvb k1
  obtain ⟨x, rfl⟩ := xden.long sv ex hva k2
  refine row x z m2 ?_
  rcases g with ⟨x', z', q1, q2, q3⟩ | g
  · have e1 : x = lN x' := Value.long.inj (xcl_ok sv ex hbx hva q1)
    have e2 : z = lN z' := Value.long.inj (xcl_ok sv ex hbx hvb q2)
    subst e1; subst e2
    exact xk0 E q3 ⟨hl, by show Value.long _ = Value.long _; rw [hF], hr⟩
  · exact xk0 E g ⟨hl, ⟨_, rfl⟩, hr⟩
theorem xdl_go (E : xStp l D cl A sv ex el eb nest txt ovr mi bys nm rtt gw rec y d ls st bx h n cn sn L p e R s m args below meth c Q as ws H locs la stv) {nx : Nat} {f : Nat → Nat → Nat} {F : Int64 → Int64 → Int64} (hx : x_dl rec nx y d ls st bx h n cn sn f = some L) (hF : ∀ a b, lN (f a b) = F (lN a) (lN b))
    (row : ∀ (x z : Int64) (rest : List Value), ¬ z = 0 → W p l e R s m args below meth c H locs cn sn Q (F0 m nx la (.long (F x z) :: rest)) → W p l e R s m args below meth c H locs cn sn Q (F0 m pc la (.long z :: .long x :: rest))) : W p l e R s m args below meth c H locs cn sn Q (F0 m pc la stv) := by
  obtain ⟨b, a, r, x, z, rfl, q1, q2, hz, g⟩ := x_dl_ok hx
  have hbx := E.2.2.2.2.1.1
  obtain ⟨hl, hst⟩ := E.2.2.2.2.2.1
  obtain ⟨vb, m1, rfl, hvb, hst⟩ := xstR_cons hst
  obtain ⟨va, m2, rfl, hva, hr⟩ := xstR_cons hst
  have e1 := xcl_ok sv ex hbx hva q1
  have e2 := xcl_ok sv ex hbx hvb q2
  subst e1; subst e2
  refine row _ _ m2 (lN_z hz) ?_
  exact xk0 E g ⟨hl, by show Value.long _ = Value.long _; rw [hF], hr⟩
theorem xsl_go (E : xStp l D cl A sv ex el eb nest txt ovr mi bys nm rtt gw rec y d ls st bx h n cn sn L p e R s m args below meth c Q as ws H locs la stv) {nx : Nat} {f : Nat → Nat → Nat} {F : Int64 → Int32 → Int64} (hx : x_sl rec nx y d ls st bx h n cn sn f = some L) (hF : ∀ a b, lN (f a b) = F (lN a) (nI b))
    (row : ∀ (x : Int64) (z : Int32) (rest : List Value), W p l e R s m args below meth c H locs cn sn Q (F0 m nx la (.long (F x z) :: rest)) → W p l e R s m args below meth c H locs cn sn Q (F0 m pc la (.int z :: .long x :: rest))) : W p l e R s m args below meth c H locs cn sn Q (F0 m pc la stv) := by
  obtain ⟨b, a, r, rfl, k1, k2, g⟩ := x_sl_ok hx
  have hbx := E.2.2.2.2.1.1
  obtain ⟨hl, hst⟩ := E.2.2.2.2.2.1
  obtain ⟨vb, m1, rfl, hvb, hst⟩ := xstR_cons hst
  obtain ⟨va, m2, rfl, hva, hr⟩ := xstR_cons hst
  obtain ⟨z, rfl⟩ := xden.int sv ex hvb k1
  obtain ⟨x, rfl⟩ := xden.long sv ex hva k2
  refine row x z m2 ?_
  rcases g with ⟨x', z', q1, q2, q3⟩ | g
  · have e1 : x = lN x' := Value.long.inj (xcl_ok sv ex hbx hva q1)
    have e2 : z = nI z' := Value.int.inj (xci_ok sv ex hbx hvb q2)
    subst e1; subst e2
    exact xk0 E q3 ⟨hl, by show Value.long _ = Value.long _; rw [hF], hr⟩
  · exact xk0 E g ⟨hl, ⟨_, rfl⟩, hr⟩
theorem xui_go (E : xStp l D cl A sv ex el eb nest txt ovr mi bys nm rtt gw rec y d ls st bx h n cn sn L p e R s m args below meth c Q as ws H locs la stv) {nx : Nat} {f : Nat → Nat} {F : Int32 → Int32} (hx : x_ui rec nx y d ls st bx h n cn sn f = some L) (hF : ∀ a, nI (f a) = F (nI a))
    (row : ∀ (x : Int32) (rest : List Value), W p l e R s m args below meth c H locs cn sn Q (F0 m nx la (.int (F x) :: rest)) → W p l e R s m args below meth c H locs cn sn Q (F0 m pc la (.int x :: rest))) : W p l e R s m args below meth c H locs cn sn Q (F0 m pc la stv) := by
  obtain ⟨a, r, rfl, k2, g⟩ := x_ui_ok hx
  have hbx := E.2.2.2.2.1.1
  obtain ⟨hl, hst⟩ := E.2.2.2.2.2.1
  obtain ⟨va, m2, rfl, hva, hr⟩ := xstR_cons hst
  obtain ⟨x, rfl⟩ := xden.int sv ex hva k2
  refine row x m2 ?_
  rcases g with ⟨x', q1, q3⟩ | g
  · have e1 : x = nI x' := Value.int.inj (xci_ok sv ex hbx hva q1)
    subst e1
    exact xk0 E q3 ⟨hl, by show Value.int _ = Value.int _; rw [hF], hr⟩
  · exact xk0 E g ⟨hl, ⟨_, rfl⟩, hr⟩
theorem xl2i_go (E : xStp l D cl A sv ex el eb nest txt ovr mi bys nm rtt gw rec y d ls st bx h n cn sn L p e R s m args below meth c Q as ws H locs la stv) {nx : Nat} (hx : x_l2i rec nx y d ls st bx h n cn sn = some L)
    (row : ∀ (x : Int64) (rest : List Value), W p l e R s m args below meth c H locs cn sn Q (F0 m nx la (.int x.toInt32 :: rest)) → W p l e R s m args below meth c H locs cn sn Q (F0 m pc la (.long x :: rest))) : W p l e R s m args below meth c H locs cn sn Q (F0 m pc la stv) := by
  obtain ⟨a, r, rfl, k2, g⟩ := x_l2i_ok hx
  have hbx := E.2.2.2.2.1.1
  obtain ⟨hl, hst⟩ := E.2.2.2.2.2.1
  obtain ⟨va, m2, rfl, hva, hr⟩ := xstR_cons hst
  obtain ⟨x, rfl⟩ := xden.long sv ex hva k2
  refine row x m2 ?_
  rcases g with ⟨x', q1, q3⟩ | g
  · have e1 : x = lN x' := Value.long.inj (xcl_ok sv ex hbx hva q1)
    subst e1
    exact xk0 E q3 ⟨hl, by show Value.int _ = Value.int _; rw [lN_l2i, x32], hr⟩
  · exact xk0 E g ⟨hl, ⟨_, rfl⟩, hr⟩
theorem xi2l_go (E : xStp l D cl A sv ex el eb nest txt ovr mi bys nm rtt gw rec y d ls st bx h n cn sn L p e R s m args below meth c Q as ws H locs la stv) {nx : Nat} (hx : x_i2l rec nx y d ls st bx h n cn sn = some L)
    (row : ∀ (x : Int32) (rest : List Value), W p l e R s m args below meth c H locs cn sn Q (F0 m nx la (.long x.toInt64 :: rest)) → W p l e R s m args below meth c H locs cn sn Q (F0 m pc la (.int x :: rest))) : W p l e R s m args below meth c H locs cn sn Q (F0 m pc la stv) := by
  obtain ⟨a, r, w, rfl, g, hw⟩ := x_i2l_ok (sv := sv) (ex := ex) hx
  obtain ⟨hl, hst⟩ := E.2.2.2.2.2.1
  obtain ⟨va, m2, rfl, hva, hr⟩ := xstR_cons hst
  obtain ⟨x, rfl, hx2⟩ := hw as va hva
  exact row x m2 (xk0 E g ⟨hl, hx2, hr⟩)
/-- loads -/
theorem xld_go (E : xStp l D cl A sv ex el eb nest txt ovr mi bys nm rtt gw rec y d ls st bx h n cn sn L p e R s m args below meth c Q as ws H locs la stv) {nx r1 k1 k2 : Nat} (hx : x_ld rec nx r1 y d ls st bx h n cn sn k1 k2 = some L)
    (row : ∀ (w : xv) (v : Value), la[r1]? = some (.val v) → xden sv ex as w v → (xkd w.1 = k1 ∨ xkd w.1 = k2) → W p l e R s m args below meth c H locs cn sn Q (F0 m nx la (v :: stv)) → W p l e R s m args below meth c H locs cn sn Q (F0 m pc la stv)) : W p l e R s m args below meth c H locs cn sn Q (F0 m pc la stv) := by
  obtain ⟨w, g1, g2, g3⟩ := x_ld_ok hx
  obtain ⟨⟨lv, hl, hls⟩, hst⟩ := E.2.2.2.2.2.1
  obtain ⟨k, v, g4, g5⟩ := xlk_ok sv ex hls g1
  exact row w v (lv_at hl k g4) g5 g2 (xk0 E g3 ⟨⟨lv, hl, hls⟩, g5, hst⟩)
end Go
