section
/-! Runs over plain numbers: a value is a tag and an Int; the heap's numbers are a function of cell and place over fixed cells -/
abbrev cv : Type := Nat × Int
abbrev cg : Type := Nat → Nat → Int
def c32 (z : Int) : Nat := (z % 4294967296).toNat
def c64 (z : Int) : Nat := (z % 18446744073709551616).toNat
def i32 (z : Int) : Int32 := nI (c32 z)
def i64 (z : Int) : Int64 := lN (c64 z)
def cI (z : Int) : Prop := -2147483648 ≤ z ∧ z < 2147483648
def cL (z : Int) : Prop := -9223372036854775808 ≤ z ∧ z < 9223372036854775808
theorem i32_int {z : Int} (h : cI z) : (i32 z).toInt = z := by
  unfold i32
  rw [nI_int]
  unfold c32
  unfold cI at h
  split <;> omega
theorem i64_int {z : Int} (h : cL z) : (i64 z).toInt = z := by
  unfold i64
  rw [lN_int]
  unfold c64
  unfold cL at h
  split <;> omega
theorem cI_of (x : Int32) : cI x.toInt := i32_lo x
theorem cL_of (x : Int64) : cL x.toInt := i64_lo x
theorem i32_of (x : Int32) : i32 x.toInt = x := Int32.toInt_inj.mp (i32_int (cI_of x))
theorem i64_of (x : Int64) : i64 x.toInt = x := Int64.toInt_inj.mp (i64_int (cL_of x))
def cenc (v : cv) : xv := match v.1 with
  | 0 => (0, c32 v.2)
  | 2 => (2, c64 v.2)
  | t => (t, v.2.toNat)
theorem cenc_1 : ∀ v : cv, (cenc v).1 = v.1
  | (0, _) => rfl
  | (1, _) => rfl
  | (2, _) => rfl
  | (_ + 3, _) => rfl
theorem cenc_4 (k : Nat) : cenc (4, (k : Int)) = (4, k) := rfl
theorem cenc_6 (k : Nat) : cenc (6, (k : Int)) = (6, k) := rfl
def cle (q : Nat × cv) : Nat × xv := (q.1, cenc q.2)
/-- what may stand for what -/
def xim (sv : Nat → Int32) (w w' : xv) : Prop := w = w' ∨ (w.1 = 1 ∧ w' = (0, xnu (sv w.2))) ∨ (w.1 = 0 ∧ w'.1 = 0 ∧ nI w.2 = nI w'.2) ∨ (w.1 = 2 ∧ w'.1 = 2 ∧ lN w.2 = lN w'.2)
def ximS (sv : Nat → Int32) : List xv → List xv → Prop
  | [], [] => True
  | w :: l, v :: m => xim sv w v ∧ ximS sv l m
  | _, _ => False
theorem ximS.rf (sv : Nat → Int32) : ∀ l, ximS sv l l
  | [] => trivial
  | _ :: l => ⟨Or.inl rfl, ximS.rf sv l⟩
theorem xim_ok {sv : Nat → Int32} {ex : Nat → Nat} {as : List Nat} {w w' : xv} {v : Value} (h : xim sv w w') (hv : xden sv ex as w v) : xden sv ex as w' v := by
  obtain ⟨t, k⟩ := w
  obtain ⟨t', k'⟩ := w'
  rcases h with h | ⟨h1, h2⟩ | ⟨h1, h2, h3⟩ | ⟨h1, h2, h3⟩
  · rw [← h]; exact hv
  · have h1 : t = 1 := h1
    subst h1
    rw [h2]
    show v = .int (nI (xnu _))
    rw [nI_xnu]; exact hv
  · have h1 : t = 0 := h1
    have h2 : t' = 0 := h2
    subst h1; subst h2
    have hv : v = .int (nI k) := hv
    show v = .int (nI k')
    rw [hv]; exact congrArg _ h3
  · have h1 : t = 2 := h1
    have h2 : t' = 2 := h2
    subst h1; subst h2
    have hv : v = .long (lN k) := hv
    show v = .long (lN k')
    rw [hv]; exact congrArg _ h3
abbrev xG0 : Type := Nat → Nat → Nat → List (Nat × xv) → List xv → xbox → xheap → Nat → Nat → Nat → List xleaf → Prop
def cG1 (cd : xcd) (mi : xmi) (df : xdf) (el : Nat → Nat) (eb : Nat → List Nat) (G : xG0) : Prop :=
  ∀ rec : xF, (∀ (y d pc : Nat) (ls : List (Nat × xv)) (st : List xv) (bx : xbox) (h : xheap) (n c s : Nat) (L : List xleaf), rec y d pc ls st bx h n c s = some L → G y d pc ls st bx h n c s L) → ∀ (y d pc : Nat) (ls : List (Nat × xv)) (st : List xv) (bx : xbox) (h : xheap) (n c s : Nat) (L : List xleaf), xstep cd mi df el eb rec y d pc ls st bx h n c s = some L → G y d pc ls st bx h n c s L
def cG2 (sv : Nat → Int32) (G : xG0) : Prop :=
  ∀ (y d pc : Nat) (ls ls' : List (Nat × xv)) (st st' : List xv) (bx : xbox) (h : xheap) (n c s : Nat) (L : List xleaf), (∀ q' ∈ ls', ∃ q ∈ ls, q.1 = q'.1 ∧ xim sv q.2 q'.2) → ximS sv st st' → G y d pc ls' st' bx h n c s L → G y d pc ls st bx h n c s L
section GoG
variable {l : Launch} {D : va_G} {cl : List vw_C} {A : Nat → Prop} {sv : Nat → Int32} {ex : Nat → Nat} {el : Nat → Nat} {eb : Nat → List Nat} {nest : List (String × Nat × MethodName × String)} {txt : Nat → String × Nat × String} {ovr : List String}
variable {cd : xcd} {mi : xmi} {df : xdf} {bys : Nat → ByteArray} {nm : Nat → MethodName} {rtt : Nat → Option FieldType} {gw : List Cond}
theorem xGo_1 (hgw : xGood gw) (hOK : xOK cl nest txt ovr cd mi df bys nm rtt gw) : cG1 cd mi df el eb (xGo l D cl A sv ex el eb nest txt ovr mi bys nm rtt gw) :=
  fun _ hrec => xstep_snd hgw hOK hrec
theorem ximS_ok {as : List Nat} : ∀ {a a' : List xv} {b : List Value}, ximS sv a a' → xstR sv ex as a b → xstR sv ex as a' b
  | [], [], [], _, _ => trivial
  | [], [], _ :: _, _, h => h.elim
  | [], _ :: _, _, h, _ => h.elim
  | _ :: _, [], _, h, _ => h.elim
  | _ :: _, _ :: _, [], _, h => h.elim
  | w :: l, w' :: l', v :: m, h, k => ⟨xim_ok h.1 k.1, ximS_ok h.2 k.2⟩
theorem xlsR_mem {as : List Nat} : ∀ {a : List (Nat × xv)} {b : List (Nat × Value)}, xlsR sv ex as a b → ∀ q ∈ a, ∃ v, (q.1, v) ∈ b ∧ xden sv ex as q.2 v
  | [], _, _, q, hq => absurd hq (List.not_mem_nil)
  | _ :: _, [], h, _, _ => h.elim
  | p :: l, r :: m, h, q, hq => by
    rcases List.mem_cons.mp hq with e | hq
    · subst e
      refine ⟨r.2, ?_, h.2.1⟩
      have : r = (q.1, r.2) := by rw [← h.1]
      rw [← this]
      exact List.mem_cons_self
    · obtain ⟨v, h1, h2⟩ := xlsR_mem h.2.2 q hq
      exact ⟨v, List.mem_cons_of_mem _ h1, h2⟩
theorem xlsR_sub {as : List Nat} {b : List (Nat × Value)} : ∀ {a : List (Nat × xv)}, (∀ q ∈ a, ∃ v, (q.1, v) ∈ b ∧ xden sv ex as q.2 v) → ∃ b', (∀ r ∈ b', r ∈ b) ∧ xlsR sv ex as a b'
  | [], _ => ⟨[], fun _ h => absurd h (List.not_mem_nil), trivial⟩
  | q :: l, h => by
    obtain ⟨v, h1, h2⟩ := h q List.mem_cons_self
    obtain ⟨b', h3, h4⟩ := xlsR_sub (fun p hp => h p (List.mem_cons_of_mem _ hp))
    refine ⟨(q.1, v) :: b', fun r hr => ?_, rfl, h2, h4⟩
    rcases List.mem_cons.mp hr with e | hr
    · rw [e]; exact h1
    · exact h3 r hr
theorem xGo_2 : cG2 sv (xGo l D cl A sv ex el eb nest txt ovr mi bys nm rtt gw) := by
  intro y d pc ls ls' st st' bx h n c s L hls hst hG p e R s0 m args below meth co Q as ws H locs la stv hC hc hs hw hf hr
  obtain ⟨⟨lv, h1, h2⟩, h3⟩ := hf
  obtain ⟨lv', h4, h5⟩ := xlsR_sub (sv := sv) (ex := ex) (as := as) (b := lv) (a := ls') (fun q' hq' => by
    obtain ⟨q, g1, g2, g3⟩ := hls q' hq'
    obtain ⟨v, g4, g5⟩ := xlsR_mem h2 q g1
    exact ⟨v, by rw [← g2]; exact g4, xim_ok g3 g5⟩)
  exact hG p e R s0 m args below meth co Q as ws H locs la stv hC hc hs hw ⟨⟨lv', ⟨h1.1, h1.2.1, fun q hq => h1.2.2 q (h4 q hq)⟩, h5⟩, ximS_ok hst h3⟩ hr
end GoG
/-- a run that knows one or two states -/
noncomputable def xtwo (S T : Nat × Nat × Nat × List (Nat × xv) × List xv × xbox × xheap × Nat × Nat × Nat) (L M : List xleaf) : xF := fun y d pc ls st bx h n c s =>
  @ite _ ((y, d, pc, ls, st, bx, h, n, c, s) = S) (Classical.propDecidable _) (some L) (@ite _ ((y, d, pc, ls, st, bx, h, n, c, s) = T) (Classical.propDecidable _) (some M) none)
theorem xtwo_1 {y d pc : Nat} {ls : List (Nat × xv)} {st : List xv} {bx : xbox} {h : xheap} {n c s : Nat} {T : Nat × Nat × Nat × List (Nat × xv) × List xv × xbox × xheap × Nat × Nat × Nat} {L M : List xleaf} : xtwo (y, d, pc, ls, st, bx, h, n, c, s) T L M y d pc ls st bx h n c s = some L := by
  unfold xtwo; rw [if_pos rfl]
theorem xtwo_2 {y d pc : Nat} {ls : List (Nat × xv)} {st : List xv} {bx : xbox} {h : xheap} {n c s : Nat} {S : Nat × Nat × Nat × List (Nat × xv) × List xv × xbox × xheap × Nat × Nat × Nat} {L M : List xleaf} (hd : S.2.1 ≠ d) : xtwo S (y, d, pc, ls, st, bx, h, n, c, s) L M y d pc ls st bx h n c s = some M := by
  unfold xtwo
  rw [if_neg (fun e => hd (by rw [← e])), if_pos rfl]
theorem xtwo_ok {G : xG0} {y d pc y' d' pc' : Nat} {ls ls' : List (Nat × xv)} {st st' : List xv} {bx bx' : xbox} {h h' : xheap} {n c s n' c' s' : Nat} {L M : List xleaf} (h1 : G y d pc ls st bx h n c s L) (h2 : G y' d' pc' ls' st' bx' h' n' c' s' M) :
    ∀ (y1 d1 pc1 : Nat) (ls1 : List (Nat × xv)) (st1 : List xv) (bx1 : xbox) (hh1 : xheap) (n1 c1 s1 : Nat) (L1 : List xleaf), xtwo (y, d, pc, ls, st, bx, h, n, c, s) (y', d', pc', ls', st', bx', h', n', c', s') L M y1 d1 pc1 ls1 st1 bx1 hh1 n1 c1 s1 = some L1 → G y1 d1 pc1 ls1 st1 bx1 hh1 n1 c1 s1 L1 := by
  intro y1 d1 pc1 ls1 st1 bx1 hh1 n1 c1 s1 L1 hx
  unfold xtwo at hx
  split at hx
  · rename_i e
    cases e
    cases hx
    exact h1
  · split at hx
    · rename_i e
      cases e
      cases hx
      exact h2
    · cases hx
end
section
/-! What a run promises: it ends, and Q holds of the numbers then and of the answer -/
def cpl (w : xv) (z : Int) : xv := match w.1 with
  | 0 => (0, c32 z)
  | 2 => (2, c64 z)
  | _ => w
def cHR (h0 h : xheap) (g : cg) : Prop := ∀ (k : Nat) (q : xcell), xg h0 k = some q → ∃ t : xct, xg h k = some (q.1, q.2.1, t) ∧ ∀ (j : Nat) (w : xv), xg q.2.2 j = some w → xg t j = some (cpl w (g k j))
section Run
variable {sv : Nat → Int32} {cd : xcd} {mi : xmi} {df : xdf} {el : Nat → Nat} {eb : Nat → List Nat} {G : xG0} {h0 : xheap} {n0 : Nat}
def cU (G : xG0) (h0 : xheap) (n0 : Nat) (y d pc : Nat) (ls : List (Nat × cv)) (st : List cv) (g : cg) (cn sn : Nat) (Q : cg → Option cv → Prop) : Prop :=
  ∀ h : xheap, cHR h0 h g → ∃ (h' : xheap) (g' : cg) (rv : Option cv), cHR h0 h' g' ∧ Q g' rv ∧ G y d pc (ls.map cle) (st.map cenc) [] h n0 cn sn [([], h', n0, rv.map cenc)]
def cC (cd : xcd) (y pc : Nat) (e : xins) : Prop := ∃ t, xg cd y = some t ∧ xg t pc = some e
def cV (sv : Nat → Int32) (cd : xcd) (mi : xmi) (df : xdf) (el : Nat → Nat) (eb : Nat → List Nat) (G : xG0) : Prop := cG1 cd mi df el eb G ∧ cG2 sv G
variable {y d pc pc' nx tg r1 r2 cn sn : Nat} {ins : Instr} {ls ls' : List (Nat × cv)} {st st' : List cv} {g g' : cg} {Q Q' : cg → Option cv → Prop}
theorem cU.mono (h : cU G h0 n0 y d pc ls st g cn sn Q) (hq : ∀ g r, Q g r → Q' g r) : cU G h0 n0 y d pc ls st g cn sn Q' := by
  intro hp hh
  obtain ⟨h', g', rv, a, b, c⟩ := h hp hh
  exact ⟨h', g', rv, a, hq _ _ b, c⟩
theorem cC.step (hc : cC cd y pc (ins, nx, tg, r1, r2)) (rec : xF) (lx : List (Nat × xv)) (sx : List xv) (bx : xbox) (h : xheap) (n c s : Nat) : xstep cd mi df el eb rec y d pc lx sx bx h n c s = xex mi df el eb rec ins nx tg r1 r2 y d pc lx sx bx h n c s := by
  obtain ⟨t, h1, h2⟩ := hc
  unfold xstep
  rw [h1]
  dsimp only
  rw [h2]
/-- one step -/
theorem cU_st (hG : cV sv cd mi df el eb G) (hc : cC cd y pc (ins, nx, tg, r1, r2))
    (hS : ∀ h, cHR h0 h g → ∃ h', cHR h0 h' g' ∧ ∃ (lx : List (Nat × xv)) (sx : List xv), (∀ rec : xF, xex mi df el eb rec ins nx tg r1 r2 y d pc (ls.map cle) (st.map cenc) [] h n0 cn sn = rec y d pc' lx sx [] h' n0 cn sn) ∧ (∀ q' ∈ ls'.map cle, ∃ q ∈ lx, q.1 = q'.1 ∧ xim sv q.2 q'.2) ∧ ximS sv sx (st'.map cenc))
    (k : cU G h0 n0 y d pc' ls' st' g' cn sn Q) : cU G h0 n0 y d pc ls st g cn sn Q := by
  intro h hh
  obtain ⟨h1, hh1, lx, sx, e, q1, q2⟩ := hS h hh
  obtain ⟨h2, g2, rv, a, b, c⟩ := k h1 hh1
  refine ⟨h2, g2, rv, a, b, ?_⟩
  have c2 := hG.2 _ _ _ _ _ _ _ _ _ _ _ _ _ q1 q2 c
  refine hG.1 (xtwo (y, d, pc', lx, sx, [], h1, n0, cn, sn) (y, d, pc', lx, sx, [], h1, n0, cn, sn) _ _) (xtwo_ok c2 c2) _ _ _ _ _ _ _ _ _ _ _ ?_
  rw [hc.step, e]
  exact xtwo_1
theorem cls_rf (ls : List (Nat × cv)) : ∀ q' ∈ ls.map cle, ∃ q ∈ ls.map cle, q.1 = q'.1 ∧ xim sv q.2 q'.2 := fun q' hq => ⟨q', hq, rfl, Or.inl rfl⟩
/-- a step of the stack alone -/
theorem cU_s0 (hG : cV sv cd mi df el eb G) (hc : cC cd y pc (ins, nx, tg, r1, r2)) (sx : List xv)
    (e : ∀ (rec : xF) (h : xheap), xex mi df el eb rec ins nx tg r1 r2 y d pc (ls.map cle) (st.map cenc) [] h n0 cn sn = rec y d pc' (ls.map cle) sx [] h n0 cn sn) 
    (k : cU G h0 n0 y d pc' ls st' g cn sn Q) (hs : ximS sv sx (st'.map cenc)) : cU G h0 n0 y d pc ls st g cn sn Q :=
  cU_st hG hc (fun h hh => ⟨h, hh, ls.map cle, sx, fun rec => e rec h, cls_rf ls, hs⟩) k
theorem xim32 (a : Nat) : xim sv (0, a) (cenc (0, (nI a).toInt)) := Or.inr (Or.inr (Or.inl ⟨rfl, rfl, (i32_of (nI a)).symm⟩))
theorem xim64 (a : Nat) : xim sv (2, a) (cenc (2, (lN a).toInt)) := Or.inr (Or.inr (Or.inr ⟨rfl, rfl, (i64_of (lN a)).symm⟩))
theorem xim1 (i : Nat) : xim sv (1, i) (cenc (0, (sv i).toInt)) := by
  refine Or.inr (Or.inl ⟨rfl, ?_⟩)
  show (0, c32 (sv i).toInt) = (0, xnu (sv i))
  have h := i32_of (sv i)
  have h2 : xnu (nI (c32 (sv i).toInt)) = xnu (sv i) := congrArg xnu h
  have h3 : c32 (sv i).toInt < 4294967296 := by unfold c32; omega
  have h4 : xnu (nI (c32 (sv i).toInt)) = c32 (sv i).toInt := by
    show (BitVec.ofNat 32 _).toNat = _
    rw [BitVec.toNat_ofNat]
    exact Nat.mod_eq_of_lt h3
  rw [← h2, h4]
theorem ximF {a : Nat} {x : Int32} (h : nI a = x) : xim sv (0, a) (cenc (0, x.toInt)) := by rw [← h]; exact xim32 a
theorem ximFL {a : Nat} {x : Int64} (h : lN a = x) : xim sv (2, a) (cenc (2, x.toInt)) := by rw [← h]; exact xim64 a
/-- a number pushed -/
theorem cU_push (hG : cV sv cd mi df el eb G) (hc : cC cd y pc (ins, nx, tg, r1, r2)) (he : ∀ (rec : xF) (lx : List (Nat × xv)) (sx : List xv) (h : xheap), xex mi df el eb rec ins nx tg r1 r2 y d pc lx sx [] h n0 cn sn = rec y d nx lx ((0, r1) :: sx) [] h n0 cn sn)
    (k : cU G h0 n0 y d nx ls ((0, (nI r1).toInt) :: st) g cn sn Q) : cU G h0 n0 y d pc ls st g cn sn Q :=
  cU_s0 hG hc _ (fun rec h => he rec _ _ h) k ⟨xim32 _, ximS.rf sv _⟩
theorem cU_pushL (hG : cV sv cd mi df el eb G) (hc : cC cd y pc (ins, nx, tg, r1, r2)) (he : ∀ (rec : xF) (lx : List (Nat × xv)) (sx : List xv) (h : xheap), xex mi df el eb rec ins nx tg r1 r2 y d pc lx sx [] h n0 cn sn = rec y d nx lx ((2, r1) :: sx) [] h n0 cn sn)
    (k : cU G h0 n0 y d nx ls ((2, (lN r1).toInt) :: st) g cn sn Q) : cU G h0 n0 y d pc ls st g cn sn Q :=
  cU_s0 hG hc _ (fun rec h => he rec _ _ h) k ⟨xim64 _, ximS.rf sv _⟩
/-- anything else pushed -/
theorem cU_pushV (hG : cV sv cd mi df el eb G) (hc : cC cd y pc (ins, nx, tg, r1, r2)) {v : cv} (he : ∀ (rec : xF) (lx : List (Nat × xv)) (sx : List xv) (h : xheap), xex mi df el eb rec ins nx tg r1 r2 y d pc lx sx [] h n0 cn sn = rec y d nx lx (cenc v :: sx) [] h n0 cn sn)
    (k : cU G h0 n0 y d nx ls (v :: st) g cn sn Q) : cU G h0 n0 y d pc ls st g cn sn Q :=
  cU_s0 hG hc _ (fun rec h => he rec _ _ h) k ⟨Or.inl rfl, ximS.rf sv _⟩
/-- a local -/
def clk : List (Nat × cv) → Nat → Option cv
  | [], _ => none
  | q :: l, i => cond (Nat.beq q.1 i) (some q.2) (clk l i)
theorem clk_map (i : Nat) : ∀ ls : List (Nat × cv), xlk (ls.map cle) i = (clk ls i).map cenc
  | [] => rfl
  | q :: l => by
    show cond (Nat.beq q.1 i) (some (cenc q.2)) (xlk (l.map cle) i) = _
    rw [clk_map i l]
    show _ = (cond (Nat.beq q.1 i) (some q.2) (clk l i)).map cenc
    cases Nat.beq q.1 i <;> rfl
theorem cU_ld (hG : cV sv cd mi df el eb G) (hc : cC cd y pc (ins, nx, tg, r1, r2)) {k1 k2 : Nat} {v : cv} (he : ∀ (rec : xF) (lx : List (Nat × xv)) (sx : List xv) (h : xheap), xex mi df el eb rec ins nx tg r1 r2 y d pc lx sx [] h n0 cn sn = x_ld rec nx r1 y d lx sx [] h n0 cn sn k1 k2)
    (hv : clk ls r1 = some v) (hk : xkd v.1 = k1 ∨ xkd v.1 = k2) (k : cU G h0 n0 y d nx ls (v :: st) g cn sn Q) : cU G h0 n0 y d pc ls st g cn sn Q := by
  refine cU_s0 hG hc (cenc v :: st.map cenc) (fun rec h => ?_) k (ximS.rf sv _)
  rw [he]
  unfold x_ld
  rw [clk_map, hv]
  show cond (Nat.beq (xkd (cenc v).1) k1 || Nat.beq (xkd (cenc v).1) k2) _ none = _
  rw [cenc_1]
  have : (Nat.beq (xkd v.1) k1 || Nat.beq (xkd v.1) k2) = true := by
    rcases hk with e | e <;> rw [e, Nat.beq_refl]
    · rfl
    · cases Nat.beq k2 k1 <;> rfl
  rw [this]; rfl
/-- what is left of the locals behind a store -/
def ckp (f : Nat → Nat × xv → Bool) (i : Nat) (q : Nat × cv) : Bool := f i (q.1, (q.2.1, 0))
theorem ckp_map {f : Nat → Nat × xv → Bool} (hf : ∀ (i j : Nat) (w : xv), f i (j, w) = f i (j, (w.1, 0))) (i : Nat) : ∀ ls : List (Nat × cv), (ls.map cle).filter (f i) = (ls.filter (ckp f i)).map cle
  | [] => rfl
  | q :: l => by
    rw [List.map_cons, List.filter_cons, List.filter_cons, ckp_map hf i l]
    have e : f i (cle q) = ckp f i q := by
      show f i (q.1, cenc q.2) = f i (q.1, (q.2.1, 0))
      rw [hf, cenc_1]
    rw [e]
    cases ckp f i q <;> rfl
theorem xk1_0 (i j : Nat) (w : xv) : xk1 i (j, w) = xk1 i (j, (w.1, 0)) := rfl
theorem xk2_0 (i j : Nat) (w : xv) : xk2 i (j, w) = xk2 i (j, (w.1, 0)) := rfl
theorem cU_sto (hG : cV sv cd mi df el eb G) (hc : cC cd y pc (ins, nx, tg, r1, r2)) {k1 k2 : Nat} {f : Nat → Nat × xv → Bool} {v : cv} (hf : ∀ (i j : Nat) (w : xv), f i (j, w) = f i (j, (w.1, 0))) (he : ∀ (rec : xF) (lx : List (Nat × xv)) (sx : List xv) (h : xheap), xex mi df el eb rec ins nx tg r1 r2 y d pc lx sx [] h n0 cn sn = x_st rec nx r1 y d lx sx [] h n0 cn sn k1 k2 f)
    (hk : xkd v.1 = k1 ∨ xkd v.1 = k2) (k : cU G h0 n0 y d nx ((r1, v) :: ls.filter (ckp f r1)) st g cn sn Q) : cU G h0 n0 y d pc ls (v :: st) g cn sn Q := by
  refine cU_st (g' := g) hG hc (fun h hh => ⟨h, hh, cle (r1, v) :: (ls.filter (ckp f r1)).map cle, st.map cenc, fun rec => ?_, cls_rf ((r1, v) :: ls.filter (ckp f r1)), ximS.rf sv _⟩) k
  rw [he]
  show cond (Nat.beq (xkd (cenc v).1) k1 || Nat.beq (xkd (cenc v).1) k2) _ none = _
  rw [cenc_1]
  have : (Nat.beq (xkd v.1) k1 || Nat.beq (xkd v.1) k2) = true := by
    rcases hk with e | e <;> rw [e, Nat.beq_refl]
    · rfl
    · cases Nat.beq k2 k1 <;> rfl
  rw [this, xfl_eq, ckp_map hf]; rfl
theorem cU_inc (hG : cV sv cd mi df el eb G) {i : Nat} {z : Int} (hc : cC cd y pc (.iinc i z, nx, tg, r1, r2)) {a : Int} (hv : clk ls r1 = some (0, a))
    (k : cU G h0 n0 y d nx ((r1, (0, (i32 a + nI r2).toInt)) :: ls.filter (ckp xk1 r1)) st g cn sn Q) : cU G h0 n0 y d pc ls st g cn sn Q := by
  refine cU_st (g' := g) hG hc (fun h hh => ⟨h, hh, (r1, (0, (c32 a + r2) % 4294967296)) :: (ls.filter (ckp xk1 r1)).map cle, st.map cenc, fun rec => ?_, ?_, ximS.rf sv _⟩) k
  · show x_inc rec nx r1 r2 y d (ls.map cle) (st.map cenc) [] h n0 cn sn = _
    unfold x_inc
    rw [clk_map, hv]
    show xfl (xk1 r1) (ls.map cle) _ = _
    rw [xfl_eq, xfrc_eq, ckp_map xk1_0]
    rfl
  · intro q' hq'
    rcases List.mem_cons.mp hq' with e | hq'
    · refine ⟨_, List.mem_cons_self, ?_, ?_⟩
      · rw [e]; rfl
      · rw [e]
        exact ximF (a := (c32 a + r2) % 4294967296) (by rw [x32, ← nI_add, show nI (c32 a) = i32 a from rfl])
    · exact ⟨q', List.mem_cons_of_mem _ hq', rfl, Or.inl rfl⟩
theorem cU_bi (hG : cV sv cd mi df el eb G) (hc : cC cd y pc (ins, nx, tg, r1, r2)) {f : Nat → Nat → Nat} {F : Int32 → Int32 → Int32} {a b : Int} (he : ∀ (rec : xF) (lx : List (Nat × xv)) (sx : List xv) (h : xheap), xex mi df el eb rec ins nx tg r1 r2 y d pc lx sx [] h n0 cn sn = x_bi rec nx y d lx sx [] h n0 cn sn f) (hF : ∀ a b, nI (f a b) = F (nI a) (nI b))
    (k : cU G h0 n0 y d nx ls ((0, (F (i32 a) (i32 b)).toInt) :: st) g cn sn Q) : cU G h0 n0 y d pc ls ((0, b) :: (0, a) :: st) g cn sn Q := by
  refine cU_s0 hG hc ((0, f (c32 a) (c32 b)) :: st.map cenc) (fun rec h => ?_) k ⟨ximF (hF _ _), ximS.rf sv _⟩
  rw [he]
  show xfrc (f (c32 a) (c32 b)) (fun q => rec y d nx (ls.map cle) ((0, q) :: st.map cenc) [] h n0 cn sn) = _
  rw [xfrc_eq]
theorem c32_z {b : Int} (hb : cI b) (h : b ≠ 0) : Nat.beq (c32 b % 4294967296) 0 = false := by
  cases hq : Nat.beq (c32 b % 4294967296) 0 with
  | false => rfl
  | true =>
    have e := Nat.eq_of_beq_eq_true hq
    unfold c32 at e
    unfold cI at hb
    omega
theorem c64_z {b : Int} (hb : cL b) (h : b ≠ 0) : Nat.beq (c64 b % 18446744073709551616) 0 = false := by
  cases hq : Nat.beq (c64 b % 18446744073709551616) 0 with
  | false => rfl
  | true =>
    have e := Nat.eq_of_beq_eq_true hq
    unfold c64 at e
    unfold cL at hb
    omega
theorem cU_dv (hG : cV sv cd mi df el eb G) (hc : cC cd y pc (ins, nx, tg, r1, r2)) {f : Nat → Nat → Nat} {F : Int32 → Int32 → Int32} {a b : Int} (he : ∀ (rec : xF) (lx : List (Nat × xv)) (sx : List xv) (h : xheap), xex mi df el eb rec ins nx tg r1 r2 y d pc lx sx [] h n0 cn sn = x_dv rec nx y d lx sx [] h n0 cn sn f) (hF : ∀ a b, nI (f a b) = F (nI a) (nI b)) (hb : cI b) (hz : b ≠ 0)
    (k : cU G h0 n0 y d nx ls ((0, (F (i32 a) (i32 b)).toInt) :: st) g cn sn Q) : cU G h0 n0 y d pc ls ((0, b) :: (0, a) :: st) g cn sn Q := by
  refine cU_s0 hG hc ((0, f (c32 a) (c32 b)) :: st.map cenc) (fun rec h => ?_) k ⟨ximF (hF _ _), ximS.rf sv _⟩
  rw [he]
  show cond (Nat.beq (c32 b % 4294967296) 0) none (xfrc (f (c32 a) (c32 b)) (fun q => rec y d nx (ls.map cle) ((0, q) :: st.map cenc) [] h n0 cn sn)) = _
  rw [c32_z hb hz, xfrc_eq]; rfl
theorem cU_bl (hG : cV sv cd mi df el eb G) (hc : cC cd y pc (ins, nx, tg, r1, r2)) {f : Nat → Nat → Nat} {F : Int64 → Int64 → Int64} {a b : Int} (he : ∀ (rec : xF) (lx : List (Nat × xv)) (sx : List xv) (h : xheap), xex mi df el eb rec ins nx tg r1 r2 y d pc lx sx [] h n0 cn sn = x_bl rec nx y d lx sx [] h n0 cn sn f) (hF : ∀ a b, lN (f a b) = F (lN a) (lN b))
    (k : cU G h0 n0 y d nx ls ((2, (F (i64 a) (i64 b)).toInt) :: st) g cn sn Q) : cU G h0 n0 y d pc ls ((2, b) :: (2, a) :: st) g cn sn Q := by
  refine cU_s0 hG hc ((2, f (c64 a) (c64 b)) :: st.map cenc) (fun rec h => ?_) k ⟨ximFL (hF _ _), ximS.rf sv _⟩
  rw [he]
  show xfrc (f (c64 a) (c64 b)) (fun q => rec y d nx (ls.map cle) ((2, q) :: st.map cenc) [] h n0 cn sn) = _
  rw [xfrc_eq]
theorem cU_dl (hG : cV sv cd mi df el eb G) (hc : cC cd y pc (ins, nx, tg, r1, r2)) {f : Nat → Nat → Nat} {F : Int64 → Int64 → Int64} {a b : Int} (he : ∀ (rec : xF) (lx : List (Nat × xv)) (sx : List xv) (h : xheap), xex mi df el eb rec ins nx tg r1 r2 y d pc lx sx [] h n0 cn sn = x_dl rec nx y d lx sx [] h n0 cn sn f) (hF : ∀ a b, lN (f a b) = F (lN a) (lN b)) (hb : cL b) (hz : b ≠ 0)
    (k : cU G h0 n0 y d nx ls ((2, (F (i64 a) (i64 b)).toInt) :: st) g cn sn Q) : cU G h0 n0 y d pc ls ((2, b) :: (2, a) :: st) g cn sn Q := by
  refine cU_s0 hG hc ((2, f (c64 a) (c64 b)) :: st.map cenc) (fun rec h => ?_) k ⟨ximFL (hF _ _), ximS.rf sv _⟩
  rw [he]
  show cond (Nat.beq (c64 b % 18446744073709551616) 0) none (xfrc (f (c64 a) (c64 b)) (fun q => rec y d nx (ls.map cle) ((2, q) :: st.map cenc) [] h n0 cn sn)) = _
  rw [c64_z hb hz, xfrc_eq]; rfl
theorem cU_sl (hG : cV sv cd mi df el eb G) (hc : cC cd y pc (ins, nx, tg, r1, r2)) {f : Nat → Nat → Nat} {F : Int64 → Int32 → Int64} {a b : Int} (he : ∀ (rec : xF) (lx : List (Nat × xv)) (sx : List xv) (h : xheap), xex mi df el eb rec ins nx tg r1 r2 y d pc lx sx [] h n0 cn sn = x_sl rec nx y d lx sx [] h n0 cn sn f) (hF : ∀ a b, lN (f a b) = F (lN a) (nI b))
    (k : cU G h0 n0 y d nx ls ((2, (F (i64 a) (i32 b)).toInt) :: st) g cn sn Q) : cU G h0 n0 y d pc ls ((0, b) :: (2, a) :: st) g cn sn Q := by
  refine cU_s0 hG hc ((2, f (c64 a) (c32 b)) :: st.map cenc) (fun rec h => ?_) k ⟨ximFL (hF _ _), ximS.rf sv _⟩
  rw [he]
  show xfrc (f (c64 a) (c32 b)) (fun q => rec y d nx (ls.map cle) ((2, q) :: st.map cenc) [] h n0 cn sn) = _
  rw [xfrc_eq]
theorem cU_ui (hG : cV sv cd mi df el eb G) (hc : cC cd y pc (ins, nx, tg, r1, r2)) {f : Nat → Nat} {F : Int32 → Int32} {a : Int} (he : ∀ (rec : xF) (lx : List (Nat × xv)) (sx : List xv) (h : xheap), xex mi df el eb rec ins nx tg r1 r2 y d pc lx sx [] h n0 cn sn = x_ui rec nx y d lx sx [] h n0 cn sn f) (hF : ∀ a, nI (f a) = F (nI a))
    (k : cU G h0 n0 y d nx ls ((0, (F (i32 a)).toInt) :: st) g cn sn Q) : cU G h0 n0 y d pc ls ((0, a) :: st) g cn sn Q := by
  refine cU_s0 hG hc ((0, f (c32 a)) :: st.map cenc) (fun rec h => ?_) k ⟨ximF (hF _), ximS.rf sv _⟩
  rw [he]
  show xfrc (f (c32 a)) (fun q => rec y d nx (ls.map cle) ((0, q) :: st.map cenc) [] h n0 cn sn) = _
  rw [xfrc_eq]
theorem cU_i2l (hG : cV sv cd mi df el eb G) (hc : cC cd y pc (.i2l, nx, tg, r1, r2)) {a : Int} (ha : cI a)
    (k : cU G h0 n0 y d nx ls ((2, a) :: st) g cn sn Q) : cU G h0 n0 y d pc ls ((0, a) :: st) g cn sn Q := by
  refine cU_s0 hG hc ((2, xnl (nI (c32 a)).toInt64) :: st.map cenc) (fun rec h => ?_) k ⟨?_, ximS.rf sv _⟩
  · show xfrc (xnl (nI (c32 a)).toInt64) (fun q => rec y d nx (ls.map cle) ((2, q) :: st.map cenc) [] h n0 cn sn) = _
    rw [xfrc_eq]
  · have := ximFL (sv := sv) (lN_xnl (nI (c32 a)).toInt64)
    rw [x_i2lI, show (nI (c32 a)).toInt = a from i32_int ha] at this
    exact this
theorem cU_l2i (hG : cV sv cd mi df el eb G) (hc : cC cd y pc (.l2i, nx, tg, r1, r2)) {a : Int}
    (k : cU G h0 n0 y d nx ls ((0, (i64 a).toInt32.toInt) :: st) g cn sn Q) : cU G h0 n0 y d pc ls ((2, a) :: st) g cn sn Q := by
  refine cU_s0 hG hc ((0, c64 a % 4294967296) :: st.map cenc) (fun rec h => ?_) k ⟨ximF (by rw [x32, ← lN_l2i]; rfl), ximS.rf sv _⟩
  show xfrc (c64 a % 4294967296) (fun q => rec y d nx (ls.map cle) ((0, q) :: st.map cenc) [] h n0 cn sn) = _
  rw [xfrc_eq]
theorem cU_dup (hG : cV sv cd mi df el eb G) (hc : cC cd y pc (.dup, nx, tg, r1, r2)) {v : cv} (hv : Nat.beq (xkd v.1) 1 = false)
    (k : cU G h0 n0 y d nx ls (v :: v :: st) g cn sn Q) : cU G h0 n0 y d pc ls (v :: st) g cn sn Q := by
  refine cU_s0 hG hc _ (fun rec h => ?_) k (ximS.rf sv _)
  show cond (Nat.beq (xkd (cenc v).1) 1) none _ = _
  rw [cenc_1, hv]; rfl
theorem cU_pop (hG : cV sv cd mi df el eb G) (hc : cC cd y pc (.pop, nx, tg, r1, r2)) {v : cv} (hv : Nat.beq (xkd v.1) 1 = false)
    (k : cU G h0 n0 y d nx ls st g cn sn Q) : cU G h0 n0 y d pc ls (v :: st) g cn sn Q := by
  refine cU_s0 hG hc _ (fun rec h => ?_) k (ximS.rf sv _)
  show cond (Nat.beq (xkd (cenc v).1) 1) none _ = _
  rw [cenc_1, hv]; rfl
theorem cU_pop2 (hG : cV sv cd mi df el eb G) (hc : cC cd y pc (.pop2, nx, tg, r1, r2)) {v : cv} (hv : Nat.beq (xkd v.1) 1 = true)
    (k : cU G h0 n0 y d nx ls st g cn sn Q) : cU G h0 n0 y d pc ls (v :: st) g cn sn Q := by
  refine cU_s0 hG hc _ (fun rec h => ?_) k (ximS.rf sv _)
  show cond (Nat.beq (xkd (cenc v).1) 1) _ none = _
  rw [cenc_1, hv]; rfl
theorem cU_dup2L (hG : cV sv cd mi df el eb G) (hc : cC cd y pc (.dup2, nx, tg, r1, r2)) {v : cv} (hv : Nat.beq (xkd v.1) 1 = true)
    (k : cU G h0 n0 y d nx ls (v :: v :: st) g cn sn Q) : cU G h0 n0 y d pc ls (v :: st) g cn sn Q := by
  refine cU_s0 hG hc _ (fun rec h => ?_) k (ximS.rf sv _)
  show cond (Nat.beq (xkd (cenc v).1) 1) _ _ = _
  rw [cenc_1, hv]; rfl
theorem cU_dup2 (hG : cV sv cd mi df el eb G) (hc : cC cd y pc (.dup2, nx, tg, r1, r2)) {v w : cv} (hv : Nat.beq (xkd v.1) 1 = false) (hw : Nat.beq (xkd w.1) 1 = false)
    (k : cU G h0 n0 y d nx ls (v :: w :: v :: w :: st) g cn sn Q) : cU G h0 n0 y d pc ls (v :: w :: st) g cn sn Q := by
  refine cU_s0 hG hc _ (fun rec h => ?_) k (ximS.rf sv _)
  show cond (Nat.beq (xkd (cenc v).1) 1) _ (cond (Nat.beq (xkd (cenc w).1) 1) none _) = _
  rw [cenc_1, cenc_1, hv, hw]; rfl
theorem cU_goto (hG : cV sv cd mi df el eb G) {o : Int} (hc : cC cd y pc (.goto o, nx, tg, r1, r2)) (k : cU G h0 n0 y d tg ls st g cn sn Q) : cU G h0 n0 y d pc ls st g cn sn Q :=
  cU_s0 hG hc _ (fun _ _ => rfl) k (ximS.rf sv _)
/-! branches -/
def crel (o : Jvm.ClassFile.Cond) (a b : Int) : Bool :=
  match o with
  | .eq => decide (a = b)
  | .ne => decide (a ≠ b)
  | .lt => decide (a < b)
  | .ge => decide (b ≤ a)
  | .gt => decide (b < a)
  | .le => decide (a ≤ b)
theorem xoi_c {a : Int} (h : cI a) : (xoi (c32 a) : Int) = a + 9223372036854775808 := by
  rw [xoi_ok, xoff_int, show (nI (c32 a)).toInt = a from i32_int h]
theorem xol_c {a : Int} (h : cL a) : (xol (c64 a) : Int) = a + 9223372036854775808 := by
  rw [xol_ok, xoff_long, show (lN (c64 a)).toInt = a from i64_int h]
theorem xdec_c (o : Jvm.ClassFile.Cond) {x z : Nat} {a b : Int} (hx : (x : Int) = a + 9223372036854775808) (hz : (z : Int) = b + 9223372036854775808) : xdec o (x, x) (z, z) = some (crel o a b) := by
  have e1 : Nat.beq x z = decide (a = b) := by
    rw [Bool.eq_iff_iff]
    constructor
    · intro h
      have := Nat.eq_of_beq_eq_true h
      exact decide_eq_true (by omega)
    · intro h
      have := of_decide_eq_true h
      have : x = z := by omega
      rw [this]; exact Nat.beq_refl z
  have e2 : Nat.blt x z = decide (a < b) := by
    rw [Bool.eq_iff_iff]
    constructor
    · intro h
      have := xltb h
      exact decide_eq_true (by omega)
    · intro h
      have := of_decide_eq_true h
      exact Nat.ble_eq_true_of_le (by omega)
  have e3 : Nat.blt z x = decide (b < a) := by
    rw [Bool.eq_iff_iff]
    constructor
    · intro h
      have := xltb h
      exact decide_eq_true (by omega)
    · intro h
      have := of_decide_eq_true h
      exact Nat.ble_eq_true_of_le (by omega)
  have e4 : Nat.ble z x = decide (b ≤ a) := by
    rw [Bool.eq_iff_iff]
    constructor
    · intro h
      have := xleb h
      exact decide_eq_true (by omega)
    · intro h
      have := of_decide_eq_true h
      exact Nat.ble_eq_true_of_le (by omega)
  have e5 : Nat.ble x z = decide (a ≤ b) := by
    rw [Bool.eq_iff_iff]
    constructor
    · intro h
      have := xleb h
      exact decide_eq_true (by omega)
    · intro h
      have := of_decide_eq_true h
      exact Nat.ble_eq_true_of_le (by omega)
  have r1 := Nat.beq_refl x
  have r2 := Nat.beq_refl z
  cases o <;> unfold xdec crel <;> dsimp only <;> simp only [e1, e2, e3, e4, e5, r1, r2, Bool.true_and]
  · by_cases h : a = b
    · simp [h]
    · have : (decide (a < b) || decide (b < a)) = true := by
        rcases Int.lt_or_gt_of_ne h with q | q
        · simp [q]
        · simp [show b < a from q]
      simp [h, this]
  · by_cases h : a = b
    · simp [h]
    · have : (decide (a < b) || decide (b < a)) = true := by
        rcases Int.lt_or_gt_of_ne h with q | q
        · simp [q]
        · simp [show b < a from q]
      simp [h, this]
  · by_cases h : a < b
    · simp [h]
    · simp [h, show b ≤ a by omega]
  · by_cases h : a < b
    · simp [h, show ¬ b ≤ a by omega]
    · simp [h, show b ≤ a by omega]
  · by_cases h : b < a
    · simp [h]
    · simp [h, show a ≤ b by omega]
  · by_cases h : b < a
    · simp [h, show ¬ a ≤ b by omega]
    · simp [h, show a ≤ b by omega]
theorem cU_icmp (hG : cV sv cd mi df el eb G) {o : Jvm.ClassFile.Cond} {z : Int} (hc : cC cd y pc (.if_icmp o z, nx, tg, r1, r2)) {a b : Int} (ha : cI a) (hb : cI b)
    (k : cU G h0 n0 y d (cond (crel o a b) tg nx) ls st g cn sn Q) : cU G h0 n0 y d pc ls ((0, b) :: (0, a) :: st) g cn sn Q := by
  refine cU_s0 hG hc (st.map cenc) (fun rec h => ?_) k (ximS.rf sv _)
  show xbr o [] (0, c32 a) (0, c32 b) (fun t => rec y d (cond t tg nx) (ls.map cle) (st.map cenc) [] h n0 cn sn) (fun bx' => rec y d pc (ls.map cle) ((0, c32 b) :: (0, c32 a) :: st.map cenc) bx' h n0 cn sn) = _
  unfold xbr
  rw [show xrg [] (0, c32 a) = (xoi (c32 a), xoi (c32 a)) from rfl, show xrg [] (0, c32 b) = (xoi (c32 b), xoi (c32 b)) from rfl, xdec_c o (xoi_c ha) (xoi_c hb)]
theorem cU_if (hG : cV sv cd mi df el eb G) {o : Jvm.ClassFile.Cond} {z : Int} (hc : cC cd y pc (.ifCond o z, nx, tg, r1, r2)) {a : Int} (ha : cI a)
    (k : cU G h0 n0 y d (cond (crel o a 0) tg nx) ls st g cn sn Q) : cU G h0 n0 y d pc ls ((0, a) :: st) g cn sn Q := by
  refine cU_s0 hG hc (st.map cenc) (fun rec h => ?_) k (ximS.rf sv _)
  show xbr o [] (0, c32 a) (0, 0) (fun t => rec y d (cond t tg nx) (ls.map cle) (st.map cenc) [] h n0 cn sn) (fun bx' => rec y d pc (ls.map cle) ((0, c32 a) :: st.map cenc) bx' h n0 cn sn) = _
  unfold xbr
  rw [show xrg [] (0, c32 a) = (xoi (c32 a), xoi (c32 a)) from rfl, show xrg [] (0, 0) = (xoi (c32 0), xoi (c32 0)) from rfl, xdec_c o (xoi_c ha) (xoi_c (a := 0) (by unfold cI; omega))]
theorem cU_nul (hG : cV sv cd mi df el eb G) (hc : cC cd y pc (ins, nx, tg, r1, r2)) {t : Bool} (he : ∀ (rec : xF) (lx : List (Nat × xv)) (sx : List xv) (h : xheap), xex mi df el eb rec ins nx tg r1 r2 y d pc lx sx [] h n0 cn sn = x_nul rec nx tg y d lx sx [] h n0 cn sn t) {v : cv}
    (hv : (xkd v.1 = 2 ∧ pc' = cond t nx tg) ∨ (xkd v.1 = 3 ∧ pc' = cond t tg nx)) (k : cU G h0 n0 y d pc' ls st g cn sn Q) : cU G h0 n0 y d pc ls (v :: st) g cn sn Q := by
  refine cU_s0 hG hc (st.map cenc) (fun rec h => ?_) k (ximS.rf sv _)
  rw [he]
  show (match xkd (cenc v).1 with
    | 2 => rec y d (cond t nx tg) (ls.map cle) (st.map cenc) [] h n0 cn sn
    | 3 => rec y d (cond t tg nx) (ls.map cle) (st.map cenc) [] h n0 cn sn
    | _ => none) = _
  rw [cenc_1]
  rcases hv with ⟨e1, e2⟩ | ⟨e1, e2⟩ <;> rw [e1, e2] <;> rfl
theorem c32_m1 : c32 (-1) = 4294967295 := by decide +kernel
def csgn (z : Int) : Int := if z < 0 then -1 else if 0 < z then 1 else 0
theorem cU_lcmp (hG : cV sv cd mi df el eb G) (hc : cC cd y pc (.lcmp, nx, tg, r1, r2)) {a b : Int} (ha : cL a) (hb : cL b)
    (k : cU G h0 n0 y d nx ls ((0, csgn (a - b)) :: st) g cn sn Q) : cU G h0 n0 y d pc ls ((2, b) :: (2, a) :: st) g cn sn Q := by
  refine cU_s0 hG hc (cenc (0, csgn (a - b)) :: st.map cenc) (fun rec h => ?_) k (ximS.rf sv _)
  show x_lcmp rec nx y d pc (ls.map cle) ((2, c64 b) :: (2, c64 a) :: st.map cenc) [] h n0 cn sn = _
  have e1 : xdec .lt (xrg [] (2, c64 a)) (xrg [] (2, c64 b)) = some (crel .lt a b) := xdec_c .lt (xol_c ha) (xol_c hb)
  have e2 : xdec .gt (xrg [] (2, c64 a)) (xrg [] (2, c64 b)) = some (crel .gt a b) := xdec_c .gt (xol_c ha) (xol_c hb)
  have e0 : (Nat.beq (xkd 2) 1 && Nat.beq (xkd 2) 1) = true := rfl
  unfold x_lcmp
  dsimp only
  rw [e0, cond_true, e1, e2]
  show _ = rec y d nx (ls.map cle) ((0, c32 (csgn (a - b))) :: st.map cenc) [] h n0 cn sn
  unfold crel csgn
  dsimp only
  by_cases h1 : a < b
  · rw [if_pos (by omega)]
    rw [c32_m1]
    simp only [h1, decide_true]
  · rw [if_neg (by omega)]
    by_cases h2 : b < a
    · rw [if_pos (by omega)]
      rw [show c32 1 = 1 from rfl]
      simp only [h1, h2, decide_true, decide_false]
    · rw [if_neg (by omega)]
      rw [show c32 0 = 0 from rfl]
      simp only [h1, h2, decide_false]
end Run
end
section
/-! Runs: cells, switches, calls, answers -/
def cval (w : xv) (z : Int) : cv := match w.1 with
  | 0 => (0, z)
  | 2 => (2, z)
  | t => (t, (w.2 : Int))
theorem cval_enc : ∀ (w : xv) (z : Int), cenc (cval w z) = cpl w z
  | (0, _), _ => rfl
  | (1, _), _ => rfl
  | (2, _), _ => rfl
  | (_ + 3, _), _ => rfl
def cup (g : cg) (k j : Nat) (z : Int) : cg := fun k' j' => if k' = k ∧ j' = j then z else g k' j'
theorem c32_xnu (x : Int32) : c32 x.toInt = xnu x := by
  have h := i32_of x
  have h2 : xnu (nI (c32 x.toInt)) = xnu x := congrArg xnu h
  have h3 : c32 x.toInt < 4294967296 := by unfold c32; omega
  have h4 : xnu (nI (c32 x.toInt)) = c32 x.toInt := by
    show (BitVec.ofNat 32 _).toNat = _
    rw [BitVec.toNat_ofNat]
    exact Nat.mod_eq_of_lt h3
  rw [← h2, h4]
theorem c32_nat {z : Int} (h1 : 0 ≤ z) (h2 : z < 4294967296) : c32 z = z.toNat := by unfold c32; omega
theorem cHR.set {h0 h : xheap} {g : cg} (hh : cHR h0 h g) {k j : Nat} {q : xcell} {w : xv} {t : xct} {v : cv} (hq : xg h0 k = some q) (hw : xg q.2.2 j = some w) (ht : xg h k = some (q.1, q.2.1, t)) (hv : cenc v = cpl w v.2) : cHR h0 (xw h k (q.1, q.2.1, xw t j (cenc v))) (cup g k j v.2) := by
  intro k' q' hq'
  by_cases e : k' = k
  · subst e
    have e2 : q' = q := Option.some.inj (hq'.symm.trans hq)
    subst e2
    refine ⟨xw t j (cenc v), xg_self _ _ _ _ ht, fun j' w' hw' => ?_⟩
    obtain ⟨t2, a1, a2⟩ := hh k' q' hq
    have e3 : t2 = t := by
      have := Option.some.inj (a1.symm.trans ht)
      exact congrArg (fun c : xcell => c.2.2) this
    subst e3
    unfold cup
    by_cases ej : j' = j
    · subst ej
      have e4 : w' = w := Option.some.inj (hw'.symm.trans hw)
      subst e4
      rw [if_pos ⟨rfl, rfl⟩, xg_self _ _ _ _ (a2 _ _ hw), hv]
    · rw [if_neg (fun z => ej z.2), xg_other _ _ _ _ ej]
      exact a2 _ _ hw'
  · obtain ⟨t2, a1, a2⟩ := hh k' q' hq'
    refine ⟨t2, by rw [xg_other _ _ _ _ e]; exact a1, fun j' w' hw' => ?_⟩
    unfold cup
    rw [if_neg (fun z => e z.1)]
    exact a2 _ _ hw'
/-- the fixed cells are as their kinds say -/
def cH0 (h0 : xheap) : Prop := ∀ (k : Nat) (q : xcell), xg h0 k = some q → (q.2.1 < 2147483648) ∧ ∀ j : Nat, j < q.2.1 → ∃ w : xv, xg q.2.2 j = some w ∧ (q.1 = 13 ∨ q.1 = 15 → w.1 = 0) ∧ (q.1 = 14 → w.1 = 2) ∧ (20 ≤ q.1 → w.1 = 4)
def cpop {α : Type} : Nat → List α → List α → Option (List α × List α)
  | 0, acc, st => some (acc, st)
  | _ + 1, _, [] => none
  | n + 1, acc, w :: st => cpop n (w :: acc) st
theorem cpop_map : ∀ (n : Nat) (acc st : List cv), xpop n (acc.map cenc) (st.map cenc) = (cpop n acc st).map (fun q => (q.1.map cenc, q.2.map cenc))
  | 0, _, _ => rfl
  | _ + 1, _, [] => rfl
  | n + 1, acc, w :: st => cpop_map n (w :: acc) st
def carg : Nat → List cv → List (Nat × cv)
  | _, [] => []
  | i, w :: l => (i, w) :: carg (cond (Nat.beq (xkd w.1) 1) (i + 2) (i + 1)) l
theorem carg_map : ∀ (i : Nat) (a : List cv), xarg i (a.map cenc) = (carg i a).map cle
  | _, [] => rfl
  | i, w :: l => by
    show (i, cenc w) :: xarg (cond (Nat.beq (xkd (cenc w).1) 1) (i + 2) (i + 1)) (l.map cenc) = cle (i, w) :: (carg (cond (Nat.beq (xkd w.1) 1) (i + 2) (i + 1)) l).map cle
    rw [cenc_1, carg_map]; rfl
def cwds : List cv → Nat
  | [] => 0
  | w :: l => cond (Nat.beq (xkd w.1) 1) 2 1 + cwds l
theorem cwds_map : ∀ a : List cv, xwds (a.map cenc) = cwds a
  | [] => rfl
  | w :: l => by
    show cond (Nat.beq (xkd (cenc w).1) 1) 2 1 + xwds (l.map cenc) = _
    rw [cenc_1, cwds_map]; rfl
theorem xcp_fw {t1 : xct} : ∀ (m sp dp : Nat) (t2 : xct), (∀ j, sp ≤ j → j < sp + m → ∃ w : xv, xg t1 j = some w) → (∀ j, dp ≤ j → j < dp + m → ∃ w : xv, xg t2 j = some w) →
    ∃ t : xct, (∀ c : xct → xR, xcp t1 m sp dp t2 c = c t) ∧ (∀ j, dp ≤ j → j < dp + m → xg t j = xg t1 (sp + (j - dp))) ∧ (∀ j, j < dp ∨ dp + m ≤ j → xg t j = xg t2 j)
  | 0, sp, dp, t2, _, _ => ⟨t2, fun _ => rfl, fun j a b => by omega, fun _ _ => rfl⟩
  | m + 1, sp, dp, t2, h1, h2 => by
    obtain ⟨w, hw⟩ := h1 sp (Nat.le_refl _) (by omega)
    obtain ⟨w2, hw2⟩ := h2 dp (Nat.le_refl _) (by omega)
    obtain ⟨t, e1, e2, e3⟩ := xcp_fw m (sp + 1) (dp + 1) (xw t2 dp w) (fun j a b => h1 j (by omega) (by omega)) (fun j a b => by
      rw [xg_other _ _ _ _ (by omega)]
      exact h2 j (by omega) (by omega))
    refine ⟨t, fun c => ?_, fun j a b => ?_, fun j a => ?_⟩
    · show (match xg t1 sp with
        | none => none
        | some w => xsK t2 dp w (fun t => xcp t1 m (sp + 1) (dp + 1) t c)) = _
      rw [hw]
      dsimp only
      rw [xsK_eq, e1]
    · by_cases ej : j = dp
      · subst ej
        rw [e3 j (by omega), xg_self _ _ _ _ hw2, Nat.sub_self, Nat.add_zero, hw]
      · rw [e2 j (by omega) (by omega)]
        congr 1
        omega
    · rw [e3 j (by omega), xg_other _ _ _ _ (by omega)]
section Run2
variable {sv : Nat → Int32} {cd : xcd} {mi : xmi} {df : xdf} {el : Nat → Nat} {eb : Nat → List Nat} {G : xG0} {h0 : xheap} {n0 : Nat}
variable {y d pc pc' nx tg r1 r2 cn sn : Nat} {ins : Instr} {ls ls' : List (Nat × cv)} {st st' : List cv} {g g' : cg} {Q Q' : cg → Option cv → Prop}
theorem cU_tab (hG : cV sv cd mi df el eb G) {a b e : Int} {f : Array Int} (hc : cC cd y pc (.tableswitch a b e f, nx, tg, r1, r2)) {z : Int} (hz : cI z) {t : Nat} (ht : xts a b e f pc z = some t)
    (k : cU G h0 n0 y d t ls st g cn sn Q) : cU G h0 n0 y d pc ls ((0, z) :: st) g cn sn Q := by
  refine cU_s0 hG hc (st.map cenc) (fun rec h => ?_) k (ximS.rf sv _)
  show (match xts a b e f pc (xz (c32 z)) with
      | some t => rec y d t (ls.map cle) (st.map cenc) [] h n0 cn sn
      | none => none) = _
  rw [show xz (c32 z) = z from i32_int hz, ht]
theorem cU_lkp (hG : cV sv cd mi df el eb G) {a : Int} {f : Array (Int × Int)} (hc : cC cd y pc (.lookupswitch a f, nx, tg, r1, r2)) {z : Int} (hz : cI z) (ht : 0 ≤ (pc : Int) + Op.lookupswitch.offset f.toList a z)
    (k : cU G h0 n0 y d ((pc : Int) + Op.lookupswitch.offset f.toList a z).toNat ls st g cn sn Q) : cU G h0 n0 y d pc ls ((0, z) :: st) g cn sn Q := by
  refine cU_s0 hG hc (st.map cenc) (fun rec h => ?_) k (ximS.rf sv _)
  show (if 0 ≤ (pc : Int) + Op.lookupswitch.offset f.toList a (xz (c32 z)) then rec y d ((pc : Int) + Op.lookupswitch.offset f.toList a (xz (c32 z))).toNat (ls.map cle) (st.map cenc) [] h n0 cn sn else none) = _
  rw [show xz (c32 z) = z from i32_int hz, if_pos ht]
theorem xnb1 {a b : Nat} (h : a = b) : Nat.beq a b = true := by rw [h]; exact Nat.beq_refl b
theorem xlt1 {a b : Nat} (h : a < b) : Nat.blt a b = true := Nat.ble_eq_true_of_le h
theorem xle1 {a b : Nat} (h : a ≤ b) : Nat.ble a b = true := Nat.ble_eq_true_of_le h
theorem cU_get (hG : cV sv cd mi df el eb G) {i : Nat} (hc : cC cd y pc (.getfield i, nx, tg, r1, r2)) {k : Nat} {q : xcell} {w : xv} (hq : xg h0 k = some q) (hk : q.1 = r1) (h13 : r1 < 13) (hw : xg q.2.2 r2 = some w)
    (kk : cU G h0 n0 y d nx ls (cval w (g k r2) :: st) g cn sn Q) : cU G h0 n0 y d pc ls ((4, (k : Int)) :: st) g cn sn Q := by
  refine cU_st (g' := g) hG hc (fun h hh => ⟨h, hh, ls.map cle, cenc (cval w (g k r2)) :: st.map cenc, fun rec => ?_, cls_rf ls, ximS.rf sv _⟩) kk
  obtain ⟨t, a1, a2⟩ := hh k q hq
  show (cond (Nat.beq 4 4) (match xg h k with
        | none => none
        | some q => cond (Nat.beq q.1 r1 && Nat.blt r1 13)
            (match xg q.2.2 r2 with
              | none => none
              | some v => rec y d nx (ls.map cle) (v :: st.map cenc) [] h n0 cn sn) none) none) = _
  rw [a1]
  show cond (Nat.beq q.1 r1 && Nat.blt r1 13) (match xg t r2 with
              | none => none
              | some v => rec y d nx (ls.map cle) (v :: st.map cenc) [] h n0 cn sn) none = _
  rw [xnb1 hk, xlt1 h13, a2 _ _ hw, cval_enc]
  rfl
theorem cU_getE (hG : cV sv cd mi df el eb G) {i : Nat} (hc : cC cd y pc (.getfield i, nx, tg, r1, r2)) {k : Nat} (hk : k = 1 ∨ k = 3) (h98 : r1 = 98)
    (kk : cU G h0 n0 y d nx ls ((cond (Nat.beq r2 0) (6, ((k + 1 : Nat) : Int)) (0, 0)) :: st) g cn sn Q) : cU G h0 n0 y d pc ls ((6, (k : Int)) :: st) g cn sn Q := by
  refine cU_s0 hG hc (cenc (cond (Nat.beq r2 0) (6, ((k + 1 : Nat) : Int)) (0, 0)) :: st.map cenc) (fun rec h => ?_) kk (ximS.rf sv _)
  subst h98
  show cond (Nat.beq 6 6 && (Nat.beq k 1 || Nat.beq k 3) && Nat.beq 98 98) (rec y d nx (ls.map cle) ((cond (Nat.beq r2 0) (6, k + 1) (0, 0)) :: st.map cenc) [] h n0 cn sn) none = _
  have : (Nat.beq k 1 || Nat.beq k 3) = true := by rcases hk with e | e <;> subst e <;> rfl
  rw [this]
  cases Nat.beq r2 0 <;> rfl
theorem cU_put (hG : cV sv cd mi df el eb G) {i : Nat} (hc : cC cd y pc (.putfield i, nx, tg, r1, r2)) {k : Nat} {q : xcell} {w : xv} {v : cv} (hq : xg h0 k = some q) (hk : q.1 = r1) (hl : r2 < q.2.1) (hw : xg q.2.2 r2 = some w) (hv : cenc v = cpl w v.2) (hf : xfit tg (cenc v) = true)
    (kk : cU G h0 n0 y d nx ls st (cup g k r2 v.2) cn sn Q) : cU G h0 n0 y d pc ls (v :: (4, (k : Int)) :: st) g cn sn Q := by
  refine cU_st (g' := cup g k r2 v.2) hG hc (fun h hh => ?_) kk
  obtain ⟨t, a1, a2⟩ := hh k q hq
  refine ⟨_, hh.set hq hw a1 hv, ls.map cle, st.map cenc, fun rec => ?_, cls_rf ls, ximS.rf sv _⟩
  show cond (Nat.beq 4 4 && xfit tg (cenc v)) (match xg h k with
        | none => none
        | some q => cond (Nat.beq q.1 r1 && Nat.blt r2 q.2.1)
            (match xg q.2.2 r2 with
              | none => none
              | some _ => xsK q.2.2 r2 (cenc v) (fun t => xsK h k (q.1, q.2.1, t) (fun h' => rec y d nx (ls.map cle) (st.map cenc) [] h' n0 cn sn))) none) none = _
  rw [hf, a1]
  show cond (Nat.beq q.1 r1 && Nat.blt r2 q.2.1)
            (match xg t r2 with
              | none => none
              | some _ => xsK t r2 (cenc v) (fun t => xsK h k (q.1, q.2.1, t) (fun h' => rec y d nx (ls.map cle) (st.map cenc) [] h' n0 cn sn))) none = _
  rw [xnb1 hk, xlt1 hl, a2 _ _ hw]
  show xsK t r2 (cenc v) (fun t => xsK h k (q.1, q.2.1, t) (fun h' => rec y d nx (ls.map cle) (st.map cenc) [] h' n0 cn sn)) = _
  rw [xsK_eq, xsK_eq]
theorem cU_len (hG : cV sv cd mi df el eb G) (hc : cC cd y pc (.arraylength, nx, tg, r1, r2)) {k : Nat} {q : xcell} (hq : xg h0 k = some q) (h13 : 13 ≤ q.1) (hl : q.2.1 < 2147483648)
    (kk : cU G h0 n0 y d nx ls ((0, (q.2.1 : Int)) :: st) g cn sn Q) : cU G h0 n0 y d pc ls ((4, (k : Int)) :: st) g cn sn Q := by
  refine cU_st (g' := g) (ls' := ls) (st' := (0, (q.2.1 : Int)) :: st) hG hc (fun h hh => ⟨h, hh, ls.map cle, (0, q.2.1) :: st.map cenc, fun rec => ?_, cls_rf ls, ⟨Or.inl ?_, ximS.rf sv _⟩⟩) kk
  · obtain ⟨t, a1, a2⟩ := hh k q hq
    show (cond (Nat.beq 4 4) (match xg h k with
        | none => none
        | some q => cond (Nat.ble 13 q.1) (rec y d nx (ls.map cle) ((0, q.2.1) :: st.map cenc) [] h n0 cn sn) none) none) = _
    rw [a1]
    show cond (Nat.ble 13 q.1) (rec y d nx (ls.map cle) ((0, q.2.1) :: st.map cenc) [] h n0 cn sn) none = _
    rw [xle1 h13]; rfl
  · show (0, q.2.1) = (0, c32 (q.2.1 : Int))
    rw [c32_nat (by omega) (by omega)]; rfl
theorem cU_lenE (hG : cV sv cd mi df el eb G) (hc : cC cd y pc (.arraylength, nx, tg, r1, r2)) {k : Nat} (hk : k = 0 ∨ k = 2 ∨ k = 4) (hl : el k < 2147483648)
    (kk : cU G h0 n0 y d nx ls ((0, (el k : Int)) :: st) g cn sn Q) : cU G h0 n0 y d pc ls ((6, (k : Int)) :: st) g cn sn Q := by
  refine cU_s0 hG hc ((0, el k) :: st.map cenc) (fun rec h => ?_) kk ⟨Or.inl ?_, ximS.rf sv _⟩
  · show cond (Nat.beq 6 6 && (Nat.beq k 0 || (Nat.beq k 2 || Nat.beq k 4))) (rec y d nx (ls.map cle) ((0, el k) :: st.map cenc) [] h n0 cn sn) none = _
    rcases hk with e | e | e <;> subst e <;> rfl
  · show (0, el k) = (0, c32 (el k : Int))
    rw [c32_nat (by omega) (by omega)]; rfl
theorem cU_ald (hG : cV sv cd mi df el eb G) (hc : cC cd y pc (ins, nx, tg, r1, r2)) {kd : Nat} (he : ∀ (rec : xF) (lx : List (Nat × xv)) (sx : List xv) (h : xheap), xex mi df el eb rec ins nx tg r1 r2 y d pc lx sx [] h n0 cn sn = x_ald el eb rec nx y d pc lx sx [] h n0 cn sn kd)
    {k i : Nat} {q : xcell} {w : xv} (hq : xg h0 k = some q) (hk : q.1 = kd ∨ (kd = 20 ∧ 20 ≤ q.1)) (hl : i < q.2.1) (h31 : i < 2147483648) (hw : xg q.2.2 i = some w)
    (kk : cU G h0 n0 y d nx ls (cval w (g k i) :: st) g cn sn Q) : cU G h0 n0 y d pc ls ((0, (i : Int)) :: (4, (k : Int)) :: st) g cn sn Q := by
  refine cU_st (g' := g) hG hc (fun h hh => ⟨h, hh, ls.map cle, cenc (cval w (g k i)) :: st.map cenc, fun rec => ?_, cls_rf ls, ximS.rf sv _⟩) kk
  obtain ⟨t, a1, a2⟩ := hh k q hq
  have hi : c32 (i : Int) = i := by rw [c32_nat (by omega) (by omega)]; rfl
  rw [he]
  show cond (Nat.blt (c32 (i : Int)) 2147483648) (cond (Nat.beq 4 4)
        (match xg h k with
          | none => none
          | some q => cond ((Nat.beq q.1 kd || (Nat.beq kd 20 && Nat.ble 20 q.1)) && Nat.blt (c32 (i : Int)) q.2.1)
              (match xg q.2.2 (c32 (i : Int)) with
                | none => none
                | some v => rec y d nx (ls.map cle) (v :: st.map cenc) [] h n0 cn sn) none) _) none = _
  rw [hi, xlt1 h31, a1]
  have hb : (Nat.beq q.1 kd || (Nat.beq kd 20 && Nat.ble 20 q.1)) = true := by
    rcases hk with e | ⟨e1, e2⟩
    · rw [xnb1 e]; rfl
    · rw [xnb1 e1, xle1 e2]; cases Nat.beq q.1 kd <;> rfl
  show cond ((Nat.beq q.1 kd || (Nat.beq kd 20 && Nat.ble 20 q.1)) && Nat.blt i q.2.1)
              (match xg t i with
                | none => none
                | some v => rec y d nx (ls.map cle) (v :: st.map cenc) [] h n0 cn sn) none = _
  rw [hb, xlt1 hl, a2 _ _ hw, cval_enc]
  rfl
theorem cU_aldS (hG : cV sv cd mi df el eb G) (hc : cC cd y pc (.iaload, nx, tg, r1, r2)) {i : Nat} (hl : i < el 0) (h31 : i < 2147483648)
    (kk : cU G h0 n0 y d nx ls ((0, (sv i).toInt) :: st) g cn sn Q) : cU G h0 n0 y d pc ls ((0, (i : Int)) :: (6, 0) :: st) g cn sn Q := by
  refine cU_s0 hG hc ((1, i) :: st.map cenc) (fun rec h => ?_) kk ⟨xim1 i, ximS.rf sv _⟩
  have hi : c32 (i : Int) = i := by rw [c32_nat (by omega) (by omega)]; rfl
  show cond (Nat.blt (c32 (i : Int)) 2147483648) (cond (Nat.beq 6 6 && Nat.beq 0 0 && Nat.beq 13 13 && Nat.blt (c32 (i : Int)) (el 0)) (rec y d nx (ls.map cle) ((1, (c32 (i : Int))) :: st.map cenc) [] h n0 cn sn) _) none = _
  rw [hi, xlt1 h31, xlt1 hl]; rfl
theorem cU_aldT (hG : cV sv cd mi df el eb G) (hc : cC cd y pc (.baload, nx, tg, r1, r2)) {i k : Nat} (hk : k = 2 ∨ k = 4) (hl : i < el k) (h31 : i < 2147483648)
    (kk : cU G h0 n0 y d nx ls ((0, (nI ((eb k).getD i 0)).toInt) :: st) g cn sn Q) : cU G h0 n0 y d pc ls ((0, (i : Int)) :: (6, (k : Int)) :: st) g cn sn Q := by
  refine cU_s0 hG hc ((0, (eb k).getD i 0) :: st.map cenc) (fun rec h => ?_) kk ⟨xim32 _, ximS.rf sv _⟩
  have hi : c32 (i : Int) = i := by rw [c32_nat (by omega) (by omega)]; rfl
  show cond (Nat.blt (c32 (i : Int)) 2147483648) (cond (Nat.beq 6 6 && Nat.beq k 0 && Nat.beq 15 13 && Nat.blt (c32 (i : Int)) (el 0)) (rec y d nx (ls.map cle) ((1, (c32 (i : Int))) :: st.map cenc) [] h n0 cn sn)
    (cond (Nat.beq 6 6 && (Nat.beq k 2 || Nat.beq k 4) && Nat.beq 15 15 && Nat.blt (c32 (i : Int)) (el k)) (rec y d nx (ls.map cle) ((0, (eb k).getD (c32 (i : Int)) 0) :: st.map cenc) [] h n0 cn sn) none)) none = _
  rw [hi, xlt1 h31, xlt1 hl]
  rcases hk with e | e <;> subst e <;> rfl
/-- the value that is stored -/
def cstv (kd : Nat) (v : cv) : cv := cond (Nat.beq kd 15) (0, (i32 v.2).toInt8.toInt32.toInt) v
theorem cU_ast (hG : cV sv cd mi df el eb G) (hc : cC cd y pc (ins, nx, tg, r1, r2)) {kd : Nat} (he : ∀ (rec : xF) (lx : List (Nat × xv)) (sx : List xv) (h : xheap), xex mi df el eb rec ins nx tg r1 r2 y d pc lx sx [] h n0 cn sn = x_ast rec nx y d pc lx sx [] h n0 cn sn kd)
    {k i : Nat} {q : xcell} {w : xv} {v : cv} (hq : xg h0 k = some q) (hk : q.1 = kd) (hl : i < q.2.1) (h31 : i < 2147483648) (hw : xg q.2.2 i = some w) (hv : (kd = 14 ∧ v.1 = 2 ∧ w.1 = 2) ∨ ((kd = 13 ∨ kd = 15) ∧ v.1 = 0 ∧ w.1 = 0))
    (kk : cU G h0 n0 y d nx ls st (cup g k i (cstv kd v).2) cn sn Q) : cU G h0 n0 y d pc ls (v :: (0, (i : Int)) :: (4, (k : Int)) :: st) g cn sn Q := by
  have hi : c32 (i : Int) = i := by rw [c32_nat (by omega) (by omega)]; rfl
  obtain ⟨vt, vz⟩ := v
  obtain ⟨wt, wn⟩ := w
  have hsv : cenc (cstv kd (vt, vz)) = cpl (wt, wn) (cstv kd (vt, vz)).2 ∧ cond (Nat.beq kd 15) (xb8 (cenc (vt, vz))) (cenc (vt, vz)) = cenc (cstv kd (vt, vz)) ∧ xfit (cond (Nat.beq kd 14) 1 0) (cenc (vt, vz)) = true := by
    rcases hv with ⟨e1, e2, e3⟩ | ⟨e1, e2, e3⟩
    · have e2 : vt = 2 := e2
      have e3 : wt = 2 := e3
      subst e1; subst e2; subst e3
      exact ⟨rfl, rfl, rfl⟩
    · have e2 : vt = 0 := e2
      have e3 : wt = 0 := e3
      subst e2; subst e3
      rcases e1 with e1 | e1
      · subst e1; exact ⟨rfl, rfl, rfl⟩
      · subst e1
        refine ⟨rfl, ?_, rfl⟩
        show (0, xnu (nI (c32 vz)).toInt8.toInt32) = (0, c32 (i32 vz).toInt8.toInt32.toInt)
        rw [c32_xnu]; rfl
  refine cU_st (g' := cup g k i (cstv kd (vt, vz)).2) hG hc (fun h hh => ?_) kk
  obtain ⟨t, a1, a2⟩ := hh k q hq
  refine ⟨_, hh.set hq hw a1 hsv.1, ls.map cle, st.map cenc, fun rec => ?_, cls_rf ls, ximS.rf sv _⟩
  rw [he]
  show cond (Nat.blt (c32 (i : Int)) 2147483648) (cond (Nat.beq 4 4 && xfit (cond (Nat.beq kd 14) 1 0) (cenc (vt, vz)))
        (match xg h k with
          | none => none
          | some q => cond (Nat.beq q.1 kd && Nat.blt (c32 (i : Int)) q.2.1)
              (xsK q.2.2 (c32 (i : Int)) (cond (Nat.beq kd 15) (xb8 (cenc (vt, vz))) (cenc (vt, vz))) (fun t => xsK h k (q.1, q.2.1, t) (fun h' => rec y d nx (ls.map cle) (st.map cenc) [] h' n0 cn sn))) none) none) none = _
  rw [hi, xlt1 h31, hsv.2.2, a1, hsv.2.1]
  show cond (Nat.beq q.1 kd && Nat.blt i q.2.1)
              (xsK t i (cenc (cstv kd (vt, vz))) (fun t => xsK h k (q.1, q.2.1, t) (fun h' => rec y d nx (ls.map cle) (st.map cenc) [] h' n0 cn sn))) none = _
  rw [xnb1 hk, xlt1 hl]
  show xsK t i (cenc (cstv kd (vt, vz))) (fun t => xsK h k (q.1, q.2.1, t) (fun h' => rec y d nx (ls.map cle) (st.map cenc) [] h' n0 cn sn)) = _
  rw [xsK_eq, xsK_eq]
/-- a copy of m places -/
def ccp (g : cg) (ka kb sp dp m : Nat) : cg := fun k j => if k = kb ∧ dp ≤ j ∧ j < dp + m then g ka (sp + (j - dp)) else g k j
theorem cU_cpy (hG : cV sv cd mi df el eb G) (h00 : cH0 h0) {i : Nat} (hc : cC cd y (pc) (.invokestatic i, nx, tg, r1, r2)) (h8 : r2 = 8) {ka kb sp dp m : Nat} {qa qb : xcell} (hqa : xg h0 ka = some qa) (hqb : xg h0 kb = some qb) (hk : qa.1 = 13 ∨ qa.1 = 14) (hk2 : qb.1 = qa.1) (hs : sp + m ≤ qa.2.1) (hd : dp + m ≤ qb.2.1) (hw : cwds st ≤ 8) (hdp : 1 ≤ d)
    (kk : cU G h0 n0 y d nx ls st (ccp g ka kb sp dp m) cn sn Q) : cU G h0 n0 y d pc ls ((0, (m : Int)) :: (0, (dp : Int)) :: (4, (kb : Int)) :: (0, (sp : Int)) :: (4, (ka : Int)) :: st) g cn sn Q := by
  subst h8
  obtain ⟨la, wa⟩ := h00 ka qa hqa
  obtain ⟨lb, wb⟩ := h00 kb qb hqb
  have e1 : c32 (m : Int) = m := by rw [c32_nat (by omega) (by omega)]; rfl
  have e2 : c32 (dp : Int) = dp := by rw [c32_nat (by omega) (by omega)]; rfl
  have e3 : c32 (sp : Int) = sp := by rw [c32_nat (by omega) (by omega)]; rfl
  refine cU_st (g' := ccp g ka kb sp dp m) hG hc (fun h hh => ?_) kk
  obtain ⟨ta, a1, a2⟩ := hh ka qa hqa
  obtain ⟨tb, b1, b2⟩ := hh kb qb hqb
  obtain ⟨t, f1, f2, f3⟩ := xcp_fw (t1 := ta) m sp dp tb (fun j x1 x2 => by
      obtain ⟨w, w1, -⟩ := wa j (by omega)
      exact ⟨_, a2 _ _ w1⟩) (fun j x1 x2 => by
      obtain ⟨w, w1, -⟩ := wb j (by omega)
      exact ⟨_, b2 _ _ w1⟩)
  refine ⟨xw h kb (qb.1, qb.2.1, t), ?_, ls.map cle, st.map cenc, fun rec => ?_, cls_rf ls, ximS.rf sv _⟩
  · intro k' q' hq'
    by_cases e : k' = kb
    · subst e
      have e4 : q' = qb := Option.some.inj (hq'.symm.trans hqb)
      subst e4
      refine ⟨t, xg_self _ _ _ _ b1, fun j w hw => ?_⟩
      unfold ccp
      by_cases hin : dp ≤ j ∧ j < dp + m
      · rw [if_pos ⟨rfl, hin.1, hin.2⟩, f2 j hin.1 hin.2]
        obtain ⟨w2, w3, w4, w5, -⟩ := wa (sp + (j - dp)) (by omega)
        obtain ⟨w6, w7, w8, w9, -⟩ := wb j (by omega)
        have e5 : w6 = w := Option.some.inj (w7.symm.trans hw)
        subst e5
        rw [a2 _ _ w3]
        obtain ⟨t2, n2⟩ := w2
        obtain ⟨t6, n6⟩ := w6
        rcases hk with hk | hk
        · have x1 : t2 = 0 := w4 (Or.inl hk)
          have x2 : t6 = 0 := w8 (Or.inl (by rw [hk2]; exact hk))
          subst x1; subst x2; rfl
        · have x1 : t2 = 2 := w5 hk
          have x2 : t6 = 2 := w9 (by rw [hk2]; exact hk)
          subst x1; subst x2; rfl
      · rw [if_neg (fun z => hin z.2), f3 j (by omega)]
        exact b2 _ _ hw
    · obtain ⟨t2, c1, c2⟩ := hh k' q' hq'
      refine ⟨t2, by rw [xg_other _ _ _ _ e]; exact c1, fun j w hw => ?_⟩
      unfold ccp
      rw [if_neg (fun z => e z.1)]
      exact c2 _ _ hw
  · show cond (Nat.beq 4 4 && Nat.beq 4 4 && Nat.ble (xwds (st.map cenc)) 8 && Nat.ble 1 d)
            (match xg h ka with
              | none => none
              | some qa => match xg h kb with
                | none => none
                | some qb => cond ((Nat.beq qa.1 13 || Nat.beq qa.1 14) && Nat.beq qb.1 qa.1 && Nat.ble (c32 (sp : Int) + c32 (m : Int)) qa.2.1 && Nat.ble (c32 (dp : Int) + c32 (m : Int)) qb.2.1 && Nat.blt (c32 (sp : Int) + c32 (m : Int)) 2147483648 && Nat.blt (c32 (dp : Int) + c32 (m : Int)) 2147483648)
                    (xcp qa.2.2 (c32 (m : Int)) (c32 (sp : Int)) (c32 (dp : Int)) qb.2.2 (fun t => xsK h kb (qb.1, qb.2.1, t) (fun h' => rec y d nx (ls.map cle) (st.map cenc) [] h' n0 cn sn))) none) none = _
    rw [e1, e2, e3, cwds_map, xle1 hw, xle1 hdp, a1, b1]
    show cond ((Nat.beq qa.1 13 || Nat.beq qa.1 14) && Nat.beq qb.1 qa.1 && Nat.ble (sp + m) qa.2.1 && Nat.ble (dp + m) qb.2.1 && Nat.blt (sp + m) 2147483648 && Nat.blt (dp + m) 2147483648)
                    (xcp ta m sp dp tb (fun t => xsK h kb (qb.1, qb.2.1, t) (fun h' => rec y d nx (ls.map cle) (st.map cenc) [] h' n0 cn sn))) none = _
    have hb : (Nat.beq qa.1 13 || Nat.beq qa.1 14) = true := by
      rcases hk with e | e <;> rw [e] <;> rfl
    rw [hb, xnb1 hk2, xle1 hs, xle1 hd, xlt1 (show sp + m < 2147483648 by omega), xlt1 (show dp + m < 2147483648 by omega)]
    show xcp ta m sp dp tb (fun t => xsK h kb (qb.1, qb.2.1, t) (fun h' => rec y d nx (ls.map cle) (st.map cenc) [] h' n0 cn sn)) = _
    rw [f1, xsK_eq]
/-- the receiver -/
def crcv (h0 : xheap) (inst virt : Bool) (kd : Nat) (args : List cv) : Prop :=
  inst = false ∨ ∃ (v : cv) (l : List cv), args = v :: l ∧ ((∃ (k : Nat) (q : xcell), v = (4, (k : Int)) ∧ xg h0 k = some q ∧ q.1 = kd ∧ kd < 13) ∨ (virt = true ∧ (v = (6, 1) ∨ v = (6, 3)) ∧ kd = 98))
def cpsh (rv : Option cv) (st : List cv) : List cv := match rv with
  | none => st
  | some v => v :: st
theorem cU_call (hG : cV sv cd mi df el eb G) (hc : cC cd y pc (ins, nx, tg, r1, r2)) {inst virt : Bool} {d' : Nat} (he : ∀ (rec : xF) (lx : List (Nat × xv)) (sx : List xv) (h : xheap), xex mi df el eb rec ins nx tg r1 r2 y (d' + 1) pc lx sx [] h n0 cn sn = x_call mi rec nx r1 y (d' + 1) lx sx [] h n0 cn sn inst virt)
    {q u : Nat × Nat × Nat × Nat × Nat × Nat} {args rest : List cv} (hq : xg mi y = some q) (hu : xg mi r1 = some u) (hp : cpop (cond inst (u.2.2.1 + 1) u.2.2.1) [] st = some (args, rest)) (hr : crcv h0 inst virt u.2.2.2.1 args)
    (hw : cwds rest ≤ 8) (ha : cwds args ≤ u.2.2.2.2.2) (hu1 : u.1 = 0) (hu2 : u.2.1 = 0) (hcn : cn ≤ q.1) (hsn : sn ≤ q.2.1) (hinst : args = [] → inst = false) {Q1 : cg → Option cv → Prop}
    (k1 : cU G h0 n0 r1 d' 0 (carg 0 args) [] g 0 0 Q1) (k2 : ∀ (g1 : cg) (rv : Option cv), Q1 g1 rv → cU G h0 n0 y (d' + 1) nx ls (cpsh rv rest) g1 cn sn Q) : cU G h0 n0 y (d' + 1) pc ls st g cn sn Q := by
  intro h hh
  obtain ⟨h1, g1, rv1, a1, b1, c1⟩ := k1 h hh
  obtain ⟨h2, g2, rv2, a2, b2, c2⟩ := k2 g1 rv1 b1 h1 a1
  refine ⟨h2, g2, rv2, a2, b2, ?_⟩
  refine hG.1 (xtwo (r1, d', 0, (carg 0 args).map cle, [], [], h, n0, 0, 0) (y, d' + 1, nx, ls.map cle, (cpsh rv1 rest).map cenc, [], h1, n0, cn, sn) [([], h1, n0, rv1.map cenc)] [([], h2, n0, rv2.map cenc)]) (xtwo_ok c1 c2) _ _ _ _ _ _ _ _ _ _ _ ?_
  rw [hc.step, he]
  generalize hrec : (xtwo (r1, d', 0, (carg 0 args).map cle, [], [], h, n0, 0, 0) (y, d' + 1, nx, ls.map cle, (cpsh rv1 rest).map cenc, [], h1, n0, cn, sn) [([], h1, n0, rv1.map cenc)] [([], h2, n0, rv2.map cenc)]) = rec
  have r1' : rec r1 d' 0 ((carg 0 args).map cle) [] [] h n0 0 0 = some [([], h1, n0, rv1.map cenc)] := by rw [← hrec]; exact xtwo_1
  have r2' : rec y (d' + 1) nx (ls.map cle) ((cpsh rv1 rest).map cenc) [] h1 n0 cn sn = some [([], h2, n0, rv2.map cenc)] := by rw [← hrec]; exact xtwo_2 (by show d' ≠ d' + 1; omega)
  have hgo : x_go mi rec nx y (d' + 1) (ls.map cle) [] h n0 cn sn r1 (args.map cenc) (rest.map cenc) = some [([], h2, n0, rv2.map cenc)] := by
    unfold x_go
    dsimp only
    rw [hq, hu]
    dsimp only
    rw [cwds_map, cwds_map, hu1, hu2, xle1 hw, xle1 ha, xle1 (show cn + 0 ≤ q.1 from hcn), xle1 (show sn + 0 ≤ q.2.1 from hsn), carg_map, r1']
    show xfrc (cn + 0) (fun c' => xfrc (sn + 0) (fun s' => xbind (fun l => rec y (d' + 1) nx (ls.map cle) (match l.2.2.2 with
                | none => rest.map cenc
                | some w => w :: rest.map cenc) l.1 l.2.1 l.2.2.1 c' s') [([], h1, n0, rv1.map cenc)])) = _
    rw [xfrc_eq, xfrc_eq]
    show xapp (rec y (d' + 1) nx (ls.map cle) (match rv1.map cenc with
                | none => rest.map cenc
                | some w => w :: rest.map cenc) [] h1 n0 cn sn) (some []) = _
    have e : (match rv1.map cenc with
                | none => rest.map cenc
                | some w => w :: rest.map cenc) = (cpsh rv1 rest).map cenc := by cases rv1 <;> rfl
    rw [e, r2']
    rfl
  unfold x_call
  rw [hu]
  dsimp only
  have hpm := cpop_map (cond inst (u.2.2.1 + 1) u.2.2.1) [] st
  rw [hp] at hpm
  rw [show xpop (cond inst (u.2.2.1 + 1) u.2.2.1) [] (st.map cenc) = some (args.map cenc, rest.map cenc) from hpm]
  dsimp only
  cases args with
  | nil =>
    rw [hinst rfl]
    exact hgo
  | cons v l =>
    show cond (!inst || cond virt (xrcv u.2.2.2.1 h (cenc v)) (Nat.beq (cenc v).1 4)) (x_go mi rec nx y (d' + 1) (ls.map cle) [] h n0 cn sn r1 (cenc v :: l.map cenc) (rest.map cenc)) none = _
    have hcd : (!inst || cond virt (xrcv u.2.2.2.1 h (cenc v)) (Nat.beq (cenc v).1 4)) = true := by
      rcases hr with e | ⟨v', l', e1, e2⟩
      · rw [e]; rfl
      · have e3 : v = v' := (List.cons.inj e1).1
        subst e3
        rcases e2 with ⟨k, qk, e4, e5, e6, e7⟩ | ⟨e4, e5, e6⟩
        · subst e4
          obtain ⟨t, t1, -⟩ := hh k qk e5
          have e8 : xrcv u.2.2.2.1 h (cenc (4, (k : Int))) = true := by
            show (match xg h k with
              | none => false
              | some q => Nat.beq q.1 u.2.2.2.1 && Nat.blt u.2.2.2.1 13) = true
            rw [t1]
            show (Nat.beq qk.1 u.2.2.2.1 && Nat.blt u.2.2.2.1 13) = true
            rw [xnb1 e6, xlt1 e7]; rfl
          rw [e8]
          cases inst <;> cases virt <;> rfl
        · subst e4
          rw [e6]
          rcases e5 with e5 | e5 <;> subst e5 <;> cases inst <;> rfl
    rw [hcd]
    exact hgo
/-! answers -/
theorem cU_ret (hG : cV sv cd mi df el eb G) (hc : cC cd y pc (.return_, nx, tg, r1, r2)) {q : Nat × Nat × Nat × Nat × Nat × Nat} (hq : xg mi y = some q) (h0' : q.2.2.2.2.1 = 0) (k : Q g none) : cU G h0 n0 y d pc ls [] g cn sn Q := by
  intro h hh
  refine ⟨h, g, none, hh, k, ?_⟩
  refine hG.1 (fun _ _ _ _ _ _ _ _ _ _ => none) (fun _ _ _ _ _ _ _ _ _ _ _ z => by cases z) _ _ _ _ _ _ _ _ _ _ _ ?_
  rw [hc.step]
  show x_ret mi y [] [] h n0 = _
  unfold x_ret
  rw [hq]
  dsimp only
  rw [h0']
  rfl
theorem cU_iret (hG : cV sv cd mi df el eb G) (hc : cC cd y pc (.ireturn, nx, tg, r1, r2)) {q : Nat × Nat × Nat × Nat × Nat × Nat} {v : cv} (hq : xg mi y = some q) (hr : xrok q.2.2.2.2.1 (cenc v) = true) (k : Q g (some v)) : cU G h0 n0 y d pc ls [v] g cn sn Q := by
  intro h hh
  refine ⟨h, g, some v, hh, k, ?_⟩
  refine hG.1 (fun _ _ _ _ _ _ _ _ _ _ => none) (fun _ _ _ _ _ _ _ _ _ _ _ z => by cases z) _ _ _ _ _ _ _ _ _ _ _ ?_
  rw [hc.step]
  show x_iret mi y [cenc v] [] h n0 = _
  unfold x_iret
  rw [hq]
  dsimp only
  rw [hr]
  rfl
theorem cU_lret (hG : cV sv cd mi df el eb G) (hc : cC cd y pc (.lreturn, nx, tg, r1, r2)) {q : Nat × Nat × Nat × Nat × Nat × Nat} {v : cv} (hq : xg mi y = some q) (h2 : q.2.2.2.2.1 = 2) (hv : v.1 = 2) (k : Q g (some v)) : cU G h0 n0 y d pc ls [v] g cn sn Q := by
  intro h hh
  refine ⟨h, g, some v, hh, k, ?_⟩
  refine hG.1 (fun _ _ _ _ _ _ _ _ _ _ => none) (fun _ _ _ _ _ _ _ _ _ _ _ z => by cases z) _ _ _ _ _ _ _ _ _ _ _ ?_
  rw [hc.step]
  show x_lret mi y [cenc v] [] h n0 = _
  unfold x_lret
  rw [hq]
  dsimp only
  rw [h2]
  show cond (Nat.beq (xkd (cenc v).1) 1) _ _ = _
  rw [cenc_1, hv]
  rfl
/-- fewer locals -/
theorem cU_drop (hG : cV sv cd mi df el eb G) (hs : ∀ q ∈ ls', q ∈ ls) (k : cU G h0 n0 y d pc ls' st g cn sn Q) : cU G h0 n0 y d pc ls st g cn sn Q := by
  intro h hh
  obtain ⟨h2, g2, rv, a, b, c⟩ := k h hh
  refine ⟨h2, g2, rv, a, b, hG.2 _ _ _ _ _ _ _ _ _ _ _ _ _ (fun q' hq' => ?_) (ximS.rf sv _) c⟩
  obtain ⟨q, h1, h2⟩ := List.mem_map.mp hq'
  exact ⟨q', List.mem_map.mpr ⟨q, hs q h1, h2⟩, rfl, Or.inl rfl⟩
end Run2
end
section
/-! Linear expressions over symbols, intervals, facts -/
abbrev ae : Type := Int × List (Nat × Int)
abbrev aenv : Type := Lean.RArray (Nat × Option (Int × Int))
theorem xcnb {b x : Bool} (h : cond b x false = true) : b = true ∧ x = true := by cases b <;> simp_all
theorem xcnt {b x : Bool} (h : cond b true x = true) : b = true ∨ x = true := by cases b <;> simp_all
def evl (ρ : Nat → Int) : List (Nat × Int) → Int
  | [] => 0
  | q :: l => q.2 * ρ q.1 + evl ρ l
def ev (ρ : Nat → Int) (e : ae) : Int := e.1 + evl ρ e.2
/-! numbers, quick for the kernel -/
def zle (a b : Int) : Bool := match a, b with
  | .ofNat m, .ofNat n => Nat.ble m n
  | .negSucc _, .ofNat _ => true
  | .ofNat _, .negSucc _ => false
  | .negSucc m, .negSucc n => Nat.ble n m
def zeq (a b : Int) : Bool := match a, b with
  | .ofNat m, .ofNat n => Nat.beq m n
  | .negSucc _, .ofNat _ => false
  | .ofNat _, .negSucc _ => false
  | .negSucc m, .negSucc n => Nat.beq m n
def zlt (a b : Int) : Bool := !zle b a
theorem zle_iff : ∀ {a b : Int}, zle a b = true ↔ a ≤ b
  | .ofNat m, .ofNat n => ⟨fun h => Int.ofNat_le.mpr (Nat.le_of_ble_eq_true h), fun h => Nat.ble_eq_true_of_le (Int.ofNat_le.mp h)⟩
  | .negSucc m, .ofNat n => ⟨fun _ => by have : (Int.negSucc m) < 0 := Int.negSucc_lt_zero m; have : (0 : Int) ≤ Int.ofNat n := Int.natCast_nonneg n; omega, fun _ => rfl⟩
  | .ofNat m, .negSucc n => ⟨fun h => (by cases h), fun h => by have : (Int.negSucc n) < 0 := Int.negSucc_lt_zero n; have : (0 : Int) ≤ Int.ofNat m := Int.natCast_nonneg m; omega⟩
  | .negSucc m, .negSucc n => ⟨fun h => by have := Nat.le_of_ble_eq_true (show Nat.ble n m = true from h); rw [Int.negSucc_eq, Int.negSucc_eq]; omega, fun h => by rw [Int.negSucc_eq, Int.negSucc_eq] at h; exact Nat.ble_eq_true_of_le (by omega)⟩
theorem zeq_iff : ∀ {a b : Int}, zeq a b = true ↔ a = b
  | .ofNat m, .ofNat n => ⟨fun h => congrArg _ (Nat.eq_of_beq_eq_true h), fun h => (by cases h; exact Nat.beq_refl _)⟩
  | .negSucc m, .ofNat n => ⟨fun h => (by cases h), fun h => (by cases h)⟩
  | .ofNat m, .negSucc n => ⟨fun h => (by cases h), fun h => (by cases h)⟩
  | .negSucc m, .negSucc n => ⟨fun h => congrArg _ (Nat.eq_of_beq_eq_true h), fun h => (by cases h; exact Nat.beq_refl _)⟩
theorem zlt_iff {a b : Int} : zlt a b = true ↔ a < b := by
  unfold zlt
  cases h : zle b a with
  | true => have := zle_iff.mp h; constructor
            · intro z; cases z
            · intro z; omega
  | false => constructor
             · intro _
               have : ¬ b ≤ a := fun z => by rw [zle_iff.mpr z] at h; cases h
               omega
             · intro _; rfl
theorem zle_f {a b : Int} (h : zle a b = false) : b < a := by
  have : ¬ a ≤ b := fun z => by rw [zle_iff.mpr z] at h; cases h
  omega
def zmn (a b : Int) : Int := cond (zle a b) a b
def zmx (a b : Int) : Int := cond (zle a b) b a
theorem zmn_l (a b : Int) : zmn a b ≤ a := by
  unfold zmn; cases h : zle a b with
  | true => exact Int.le_refl _
  | false => exact Int.le_of_lt (zle_f h)
theorem zmn_r (a b : Int) : zmn a b ≤ b := by
  unfold zmn; cases h : zle a b with
  | true => exact zle_iff.mp h
  | false => exact Int.le_refl _
theorem zmn_of {a b c : Int} (h1 : c ≤ a) (h2 : c ≤ b) : c ≤ zmn a b := by
  unfold zmn; cases zle a b <;> assumption
theorem zmx_l (a b : Int) : a ≤ zmx a b := by
  unfold zmx; cases h : zle a b with
  | true => exact zle_iff.mp h
  | false => exact Int.le_refl _
theorem zmx_r (a b : Int) : b ≤ zmx a b := by
  unfold zmx; cases h : zle a b with
  | true => exact Int.le_refl _
  | false => exact Int.le_of_lt (zle_f h)
theorem zmx_of {a b c : Int} (h1 : a ≤ c) (h2 : b ≤ c) : zmx a b ≤ c := by
  unfold zmx; cases zle a b <;> assumption
noncomputable def zfrc {β : Type} (z : Int) (c : Int → β) : β := Int.rec (motive := fun _ => β) (fun n => xfrc n (fun m => c (.ofNat m))) (fun n => xfrc n (fun m => c (.negSucc m))) z
theorem zfrc_eq {β : Type} (z : Int) (c : Int → β) : zfrc z c = c z := by
  cases z with
  | ofNat n => exact xfrc_eq n (fun m => c (.ofNat m))
  | negSucc n => exact xfrc_eq n (fun m => c (.negSucc m))
noncomputable def lfrc {β : Type} (l : List (Nat × Int)) (c : List (Nat × Int) → β) : β :=
  List.rec (motive := fun _ => (List (Nat × Int) → β) → β) (fun c => c []) (fun q _ r c => xfrc q.1 (fun s => zfrc q.2 (fun z => r (fun m => c ((s, z) :: m))))) l c
theorem lfrc_eq {β : Type} : ∀ (l : List (Nat × Int)) (c : List (Nat × Int) → β), lfrc l c = c l
  | [], _ => rfl
  | q :: l, c => by
    show xfrc q.1 (fun s => zfrc q.2 (fun z => lfrc l (fun m => c ((s, z) :: m)))) = _
    rw [xfrc_eq, zfrc_eq, lfrc_eq l]
noncomputable def efrc {β : Type} (e : ae) (c : ae → β) : β := zfrc e.1 (fun z => lfrc e.2 (fun l => c (z, l)))
theorem efrc_eq {β : Type} (e : ae) (c : ae → β) : efrc e c = c e := by unfold efrc; rw [zfrc_eq, lfrc_eq]
/-! sums -/
def eins (s : Nat) (c : Int) : List (Nat × Int) → List (Nat × Int)
  | [] => [(s, c)]
  | q :: l => cond (Nat.beq q.1 s) (cond (zeq (Int.add q.2 c) 0) l ((s, Int.add q.2 c) :: l)) (cond (Nat.ble s q.1) ((s, c) :: q :: l) (q :: eins s c l))
theorem eins_ev (ρ : Nat → Int) (s : Nat) (c : Int) : ∀ l, evl ρ (eins s c l) = c * ρ s + evl ρ l
  | [] => rfl
  | q :: l => by
    show evl ρ (cond (Nat.beq q.1 s) (cond (zeq (Int.add q.2 c) 0) l ((s, Int.add q.2 c) :: l)) (cond (Nat.ble s q.1) ((s, c) :: q :: l) (q :: eins s c l))) = c * ρ s + (q.2 * ρ q.1 + evl ρ l)
    cases h : Nat.beq q.1 s with
    | true =>
      have e := Nat.eq_of_beq_eq_true h
      rw [e]
      have hd : (Int.add q.2 c) * ρ s = q.2 * ρ s + c * ρ s := Int.add_mul q.2 c (ρ s)
      cases hz : zeq (Int.add q.2 c) 0 with
      | true =>
        have hz := zeq_iff.mp hz
        rw [hz, Int.zero_mul] at hd
        simp only [cond_true]
        omega
      | false =>
        simp only [cond_true, cond_false]
        show (Int.add q.2 c) * ρ s + evl ρ l = _
        omega
    | false =>
      simp only [cond_false]
      cases Nat.ble s q.1 with
      | true => rfl
      | false =>
        show q.2 * ρ q.1 + evl ρ (eins s c l) = _
        rw [eins_ev ρ s c l]
        omega
/-- a + k b -/
def eaddl (k : Int) : List (Nat × Int) → List (Nat × Int) → List (Nat × Int)
  | [], l => l
  | q :: m, l => eaddl k m (eins q.1 (Int.mul k q.2) l)
theorem eaddl_ev (ρ : Nat → Int) (k : Int) : ∀ m l, evl ρ (eaddl k m l) = evl ρ l + k * evl ρ m
  | [], l => by show evl ρ l = evl ρ l + k * 0; rw [Int.mul_zero, Int.add_zero]
  | q :: m, l => by
    show evl ρ (eaddl k m (eins q.1 (Int.mul k q.2) l)) = evl ρ l + k * (q.2 * ρ q.1 + evl ρ m)
    rw [eaddl_ev ρ k m, eins_ev, Int.mul_add, ← Int.mul_assoc]
    show k * q.2 * ρ q.1 + evl ρ l + k * evl ρ m = _
    omega
def eadd (a b : ae) (k : Int) : ae := cond (zeq k 0) a (Int.add a.1 (Int.mul k b.1), eaddl k b.2 a.2)
theorem eadd_ev (ρ : Nat → Int) (a b : ae) (k : Int) : ev ρ (eadd a b k) = ev ρ a + k * ev ρ b := by
  unfold eadd
  cases h : zeq k 0 with
  | true =>
    rw [zeq_iff.mp h, Int.zero_mul, Int.add_zero]; rfl
  | false =>
    show (a.1 + k * b.1) + evl ρ (eaddl k b.2 a.2) = (a.1 + evl ρ a.2) + k * (b.1 + evl ρ b.2)
    rw [eaddl_ev, Int.mul_add]
    omega
def ecst (c : Int) : ae := (c, [])
theorem ecst_ev (ρ : Nat → Int) (c : Int) : ev ρ (ecst c) = c := by show c + 0 = c; omega
def esym (s : Nat) : ae := (0, [(s, 1)])
theorem esym_ev (ρ : Nat → Int) (s : Nat) : ev ρ (esym s) = ρ s := by show 0 + (1 * ρ s + 0) = ρ s; omega
def eadc (a : ae) (c : Int) : ae := (Int.add a.1 c, a.2)
theorem eadc_ev (ρ : Nat → Int) (a : ae) (c : Int) : ev ρ (eadc a c) = ev ρ a + c := by
  show (a.1 + c) + evl ρ a.2 = (a.1 + evl ρ a.2) + c
  omega
def escl (a : ae) (k : Int) : ae := eadd (0, []) a k
theorem escl_ev (ρ : Nat → Int) (a : ae) (k : Int) : ev ρ (escl a k) = k * ev ρ a := by
  unfold escl
  rw [eadd_ev]
  show 0 + 0 + _ = _
  omega
/-! intervals -/
def envR (env : aenv) (ρ : Nat → Int) : Prop := ∀ (s : Nat) (i : Int × Int), xg env s = some (some i) → i.1 ≤ ρ s ∧ ρ s ≤ i.2
noncomputable def eub (env : aenv) : List (Nat × Int) → Int → Option Int
  | [], acc => some acc
  | q :: l, acc => match xg env q.1 with
    | some (some i) => zfrc (Int.add acc (Int.mul q.2 (cond (zle 0 q.2) i.2 i.1))) (fun a => eub env l a)
    | _ => none
theorem mul_ub {k x lo hi : Int} (h1 : lo ≤ x) (h2 : x ≤ hi) : k * x ≤ Int.mul k (cond (zle 0 k) hi lo) := by
  show k * x ≤ k * (cond (zle 0 k) hi lo)
  cases h : zle 0 k with
  | true => exact Int.mul_le_mul_of_nonneg_left h2 (zle_iff.mp h)
  | false =>
    have hk := zle_f h
    exact Int.mul_le_mul_of_nonpos_left (by omega) h1
theorem eub_ok {env : aenv} {ρ : Nat → Int} (hE : envR env ρ) : ∀ (l : List (Nat × Int)) (acc u : Int), eub env l acc = some u → acc + evl ρ l ≤ u
  | [], acc, u, h => by
    have : acc = u := Option.some.inj h
    show acc + 0 ≤ u
    omega
  | q :: l, acc, u, h => by
    unfold eub at h
    split at h
    · rename_i i hg
      rw [zfrc_eq] at h
      have ih := eub_ok hE l _ u h
      obtain ⟨a1, a2⟩ := hE q.1 i hg
      have := mul_ub (k := q.2) a1 a2
      show acc + (q.2 * ρ q.1 + evl ρ l) ≤ u
      have e : Int.add acc (Int.mul q.2 (cond (zle 0 q.2) i.2 i.1)) = acc + Int.mul q.2 (cond (zle 0 q.2) i.2 i.1) := rfl
      rw [e] at ih
      omega
    · cases h
noncomputable def eu (env : aenv) (e : ae) : Option Int := eub env e.2 e.1
theorem eu_ok {env : aenv} {ρ : Nat → Int} (hE : envR env ρ) {e : ae} {u : Int} (h : eu env e = some u) : ev ρ e ≤ u := eub_ok hE e.2 e.1 u h
/-! facts: each is at most 0 -/
def fxR (fx : List ae) (ρ : Nat → Int) : Prop := ∀ f ∈ fx, ev ρ f ≤ 0
/-- a symbol of one sign in both -/
def esh1 (q : Nat × Int) : List (Nat × Int) → Bool
  | [] => false
  | r :: l => cond (Nat.beq q.1 r.1) (cond (zle 0 q.2) (zle 0 r.2) (zle r.2 0)) (esh1 q l)
def eshr (e : List (Nat × Int)) : List (Nat × Int) → Bool
  | [] => false
  | q :: l => cond (esh1 q e) true (eshr e l)
/-- is e at most 0, by the facts: d of them, one behind another -/
noncomputable def elef (env : aenv) (fx : List ae) : Nat → ae → Bool
  | 0, e => match eu env e with
    | none => false
    | some u => zle u 0
  | d + 1, e => match eu env e with
    | none => false
    | some u => cond (zle u 0) true (fx.any (fun f => cond (eshr e.2 f.2) (efrc (eadd e f (-1)) (fun x => elef env fx d x)) false))
theorem elef_ok {env : aenv} {ρ : Nat → Int} {fx : List ae} (hE : envR env ρ) (hF : fxR fx ρ) : ∀ (d : Nat) (e : ae), elef env fx d e = true → ev ρ e ≤ 0
  | 0, e, h => by
    unfold elef at h
    cases hu : eu env e with
    | none => rw [hu] at h; cases h
    | some u =>
      rw [hu] at h
      have := eu_ok hE hu
      have := zle_iff.mp h
      omega
  | d + 1, e, h => by
    unfold elef at h
    cases hu : eu env e with
    | none => rw [hu] at h; cases h
    | some u =>
      rw [hu] at h
      dsimp only at h
      cases hz : zle u 0 with
      | true =>
        have := eu_ok hE hu
        have := zle_iff.mp hz
        omega
      | false =>
        rw [hz] at h
        simp only [cond_false] at h
        obtain ⟨f, hf, h2⟩ := List.any_eq_true.mp h
        obtain ⟨-, h3⟩ := xcnb h2
        rw [efrc_eq] at h3
        have := elef_ok hE hF d _ h3
        rw [eadd_ev] at this
        have := hF f hf
        omega
/-! the same as a number -/
noncomputable def eubf (env : aenv) (fx : List ae) : Nat → ae → Option Int
  | 0, e => eu env e
  | d + 1, e => match eu env e with
    | none => none
    | some u => some (fx.foldl (fun u f => cond (eshr e.2 f.2) (efrc (eadd e f (-1)) (fun x => match eubf env fx d x with
      | none => u
      | some w => zmn u w)) u) u)
theorem eubf_fold {α : Type} {x : Int} {F : Int → α → Int} : ∀ (l : List α) (u : Int), (∀ u, ∀ f ∈ l, x ≤ u → x ≤ F u f) → x ≤ u → x ≤ l.foldl F u
  | [], _, _, h => h
  | f :: l, u, hF, h => eubf_fold l (F u f) (fun u g hg => hF u g (List.mem_cons_of_mem _ hg)) (hF u f List.mem_cons_self h)
theorem eubf_ok {env : aenv} {ρ : Nat → Int} {fx : List ae} (hE : envR env ρ) (hF : fxR fx ρ) : ∀ (d : Nat) (e : ae) (u : Int), eubf env fx d e = some u → ev ρ e ≤ u
  | 0, e, u, h => eu_ok hE h
  | d + 1, e, u, h => by
    unfold eubf at h
    cases hu : eu env e with
    | none => rw [hu] at h; cases h
    | some u0 =>
      rw [hu] at h
      have h := Option.some.inj h
      rw [← h]
      refine eubf_fold fx u0 (fun u f hf hx => ?_) (eu_ok hE hu)
      cases hs : eshr e.2 f.2 with
      | false => exact hx
      | true =>
        simp only [cond_true]
        rw [efrc_eq]
        cases hw : eubf env fx d (eadd e f (-1)) with
        | none => exact hx
        | some w =>
          dsimp only
          refine zmn_of hx ?_
          have := eubf_ok hE hF d _ w hw
          rw [eadd_ev] at this
          have := hF f hf
          omega
/-- lower and upper bound, by the facts -/
noncomputable def ebd (env : aenv) (fx : List ae) (e : ae) : Option (Int × Int) :=
  match e.2 with
  | [] => some (e.1, e.1)
  | _ => match eubf env fx 2 e with
    | none => none
    | some u => efrc (escl e (-1)) (fun x => match eubf env fx 2 x with
      | none => none
      | some w => some (Int.neg w, u))
theorem ebd_ok {env : aenv} {ρ : Nat → Int} {fx : List ae} (hE : envR env ρ) (hF : fxR fx ρ) {e : ae} {i : Int × Int} (h : ebd env fx e = some i) : i.1 ≤ ev ρ e ∧ ev ρ e ≤ i.2 := by
  unfold ebd at h
  split at h
  · rename_i hn
    have h := Option.some.inj h
    have : ev ρ e = e.1 := by unfold ev; rw [hn]; show e.1 + 0 = e.1; omega
    rw [← h, this]
    exact ⟨Int.le_refl _, Int.le_refl _⟩
  · cases hu : eubf env fx 2 e with
    | none => rw [hu] at h; cases h
    | some u =>
      rw [hu] at h
      dsimp only at h
      rw [efrc_eq] at h
      cases hw : eubf env fx 2 (escl e (-1)) with
      | none => rw [hw] at h; cases h
      | some w =>
        rw [hw] at h
        have h := Option.some.inj h
        rw [← h]
        have h1 := eubf_ok hE hF 2 _ u hu
        have h2 := eubf_ok hE hF 2 _ w hw
        rw [escl_ev] at h2
        refine ⟨?_, h1⟩
        show -w ≤ ev ρ e
        omega
/-- does e lie between lo and hi -/
noncomputable def efit (env : aenv) (fx : List ae) (e : ae) (lo hi : Int) : Bool :=
  match e.2 with
  | [] => cond (zle lo e.1) (zle e.1 hi) false
  | _ => efrc (eadc e (Int.neg hi)) (fun a => cond (elef env fx 2 a) (efrc (eadd (lo, []) e (-1)) (fun b => elef env fx 2 b)) false)
theorem efit_ok {env : aenv} {ρ : Nat → Int} {fx : List ae} (hE : envR env ρ) (hF : fxR fx ρ) {e : ae} {lo hi : Int} (h : efit env fx e lo hi = true) : lo ≤ ev ρ e ∧ ev ρ e ≤ hi := by
  unfold efit at h
  split at h
  · rename_i hn
    obtain ⟨h1, h2⟩ := xcnb h
    have : ev ρ e = e.1 := by unfold ev; rw [hn]; show e.1 + 0 = e.1; omega
    rw [this]
    exact ⟨zle_iff.mp h1, zle_iff.mp h2⟩
  · rw [efrc_eq] at h
    obtain ⟨h1, h2⟩ := xcnb h
    rw [efrc_eq] at h2
    have h1 := elef_ok hE hF 2 _ h1
    have h2 := elef_ok hE hF 2 _ h2
    rw [eadc_ev] at h1
    rw [eadd_ev] at h2
    have e1 : ev ρ ((lo, []) : ae) = lo := ecst_ev ρ lo
    rw [e1] at h2
    have e2 : Int.neg hi = -hi := rfl
    rw [e2] at h1
    constructor <;> omega
/-! what is assumed narrows the intervals -/
theorem xw_none {α : Type} (t : Lean.RArray (Nat × α)) (k : Nat) (v : α) (h : xg t k = none) : xg (xw t k v) k = none := by
  induction t with
  | leaf q =>
    rw [xg_leaf] at h
    rw [xw_leaf]
    cases hb : Nat.beq q.1 k with
    | true => rw [hb] at h; cases h
    | false => rw [hb] at h; simp only [cond_false]; rw [xg_leaf, hb]; rfl
  | branch p a b iha ihb =>
    rw [xg_branch] at h
    rw [xw_branch]
    cases hb : Nat.ble p k with
    | true => rw [hb] at h; simp only [cond_true] at h ⊢; rw [xg_branch, hb]; exact ihb h
    | false => rw [hb] at h; simp only [cond_false] at h ⊢; rw [xg_branch, hb]; exact iha h
theorem envR_set {env : aenv} {ρ : Nat → Int} (hE : envR env ρ) {s : Nat} {i : Int × Int} (h1 : i.1 ≤ ρ s) (h2 : ρ s ≤ i.2) : envR (xw env s (some i)) ρ := by
  intro t j ht
  by_cases e : t = s
  · subst e
    cases hg : xg env t with
    | none =>
      have := xw_none env t (some i) hg
      rw [this] at ht
      cases ht
    | some w =>
      rw [xg_self env t (some i) w hg] at ht
      have := Option.some.inj (Option.some.inj ht)
      rw [← this]
      exact ⟨h1, h2⟩
  · rw [xg_other env s t _ e] at ht
    exact hE t j ht
/-- n: what is at least 0; l: the symbols to narrow, with their factors in -n -/
noncomputable def anar (n : ae) : List (Nat × Int) → aenv → (aenv → Bool) → Bool
  | [], env, k => k env
  | q :: l, env, k => match xg env q.1 with
    | some (some i) => match eub env (eins q.1 q.2 n.2) n.1 with
      | none => false
      | some u => cond (zle q.2 0)
        (zfrc (Int.neg (Int.ediv u (Int.neg q.2))) (fun a => cond (zle a i.1) (anar n l env k) (cond (zle a i.2) (xsK env q.1 (some (a, i.2)) (fun env' => anar n l env' k)) true)))
        (zfrc (Int.ediv u q.2) (fun b => cond (zle i.2 b) (anar n l env k) (cond (zle i.1 b) (xsK env q.1 (some (i.1, b)) (fun env' => anar n l env' k)) true)))
    | _ => false
theorem zdiv_ub {k x u : Int} (hk : 0 < k) (h : k * x ≤ u) : x ≤ Int.ediv u k := by
  show x ≤ u / k
  rw [Int.le_ediv_iff_mul_le hk, Int.mul_comm]
  exact h
theorem zdiv_lb {k x u : Int} (hk : k < 0) (h : k * x ≤ u) : Int.neg (Int.ediv u (Int.neg k)) ≤ x := by
  have h1 : (-k) * (-x) ≤ u := by rw [Int.neg_mul_neg]; exact h
  have := zdiv_ub (k := -k) (x := -x) (u := u) (by omega) h1
  have e1 : Int.ediv u (Int.neg k) = Int.ediv u (-k) := rfl
  have e2 : Int.neg (Int.ediv u (Int.neg k)) = - Int.ediv u (-k) := rfl
  omega
theorem anar_ok {n : ae} {P : (Nat → Int) → Prop} (hP : ∃ ρ, P ρ) : ∀ (l : List (Nat × Int)) (env : aenv) (k : aenv → Bool), anar n l env k = true → (∀ ρ, P ρ → envR env ρ ∧ 0 ≤ ev ρ n) → (∀ q ∈ l, q.2 ≠ 0) → ∃ env', k env' = true ∧ ∀ ρ, P ρ → envR env' ρ
  | [], env, k, h, hR, _ => ⟨env, h, fun ρ p => (hR ρ p).1⟩
  | q :: l, env, k, h, hR, hz => by
    have hz' : ∀ q ∈ l, q.2 ≠ 0 := fun r hr => hz r (List.mem_cons_of_mem _ hr)
    have hq0 := hz q List.mem_cons_self
    unfold anar at h
    split at h
    · rename_i i hg
      cases hu : eub env (eins q.1 q.2 n.2) n.1 with
      | none => rw [hu] at h; cases h
      | some u =>
        rw [hu] at h
        dsimp only at h
        have key : ∀ ρ, P ρ → q.2 * ρ q.1 ≤ u := by
          intro ρ p
          obtain ⟨h1, h2⟩ := hR ρ p
          have h3 := eub_ok h1 _ _ u hu
          rw [eins_ev] at h3
          have h4 : ev ρ n = n.1 + evl ρ n.2 := rfl
          omega
        cases hs : zle q.2 0 with
        | true =>
          rw [hs] at h
          simp only [cond_true] at h
          rw [zfrc_eq] at h
          have hk : q.2 < 0 := by have := zle_iff.mp hs; omega
          cases h1 : zle (Int.neg (Int.ediv u (Int.neg q.2))) i.1 with
          | true => rw [h1] at h; exact anar_ok hP l env k h hR hz'
          | false =>
            rw [h1] at h
            simp only [cond_false] at h
            rcases hP with ⟨ρ0, p0⟩
            have hb0 := zdiv_lb hk (key ρ0 p0)
            have hi0 := (hR ρ0 p0).1 q.1 i hg
            cases h2 : zle (Int.neg (Int.ediv u (Int.neg q.2))) i.2 with
            | false => have := zle_f h2; omega
            | true =>
              rw [h2] at h
              simp only [cond_true] at h
              rw [xsK_eq] at h
              exact anar_ok ⟨ρ0, p0⟩ l _ k h (fun ρ p => ⟨envR_set (hR ρ p).1 (zdiv_lb hk (key ρ p)) ((hR ρ p).1 q.1 i hg).2, (hR ρ p).2⟩) hz'
        | false =>
          rw [hs] at h
          simp only [cond_false] at h
          rw [zfrc_eq] at h
          have hk : 0 < q.2 := zle_f hs
          cases h1 : zle i.2 (Int.ediv u q.2) with
          | true => rw [h1] at h; exact anar_ok hP l env k h hR hz'
          | false =>
            rw [h1] at h
            simp only [cond_false] at h
            rcases hP with ⟨ρ0, p0⟩
            have hb0 := zdiv_ub hk (key ρ0 p0)
            have hi0 := (hR ρ0 p0).1 q.1 i hg
            cases h2 : zle i.1 (Int.ediv u q.2) with
            | false => have := zle_f h2; omega
            | true =>
              rw [h2] at h
              simp only [cond_true] at h
              rw [xsK_eq] at h
              exact anar_ok ⟨ρ0, p0⟩ l _ k h (fun ρ p => ⟨envR_set (hR ρ p).1 ((hR ρ p).1 q.1 i hg).1 (zdiv_ub hk (key ρ p)), (hR ρ p).2⟩) hz'
    · cases h
/-- all facts narrow once -/
def znz : List (Nat × Int) → Bool
  | [] => true
  | q :: l => cond (zeq q.2 0) false (znz l)
theorem znz_ok : ∀ {l : List (Nat × Int)}, znz l = true → ∀ q ∈ l, q.2 ≠ 0
  | [], _, _, hq => absurd hq List.not_mem_nil
  | r :: l, h, q, hq => by
    unfold znz at h
    cases hz : zeq r.2 0 with
    | true => rw [hz] at h; cases h
    | false =>
      rw [hz] at h
      rcases List.mem_cons.mp hq with e | hq
      · rw [e]; intro z; rw [zeq_iff.mpr z] at hz; cases hz
      · exact znz_ok h q hq
noncomputable def aprp : List ae → aenv → (aenv → Bool) → Bool
  | [], env, k => k env
  | f :: l, env, k => cond (znz f.2) (efrc (escl f (-1)) (fun n => anar n f.2 env (fun env' => aprp l env' k))) false
theorem aprp_ok {P : (Nat → Int) → Prop} (hP : ∃ ρ, P ρ) : ∀ (l : List ae) (env : aenv) (k : aenv → Bool), aprp l env k = true → (∀ ρ, P ρ → envR env ρ ∧ fxR l ρ) → ∃ env', k env' = true ∧ ∀ ρ, P ρ → envR env' ρ
  | [], env, k, h, hR => ⟨env, h, fun ρ p => (hR ρ p).1⟩
  | f :: l, env, k, h, hR => by
    unfold aprp at h
    obtain ⟨h1, h2⟩ := xcnb h
    rw [efrc_eq] at h2
    obtain ⟨env', h3, h4⟩ := anar_ok hP _ _ _ h2 (fun ρ p => ⟨(hR ρ p).1, by rw [escl_ev]; have := (hR ρ p).2 f List.mem_cons_self; omega⟩) (znz_ok h1)
    exact aprp_ok hP l env' k h3 (fun ρ p => ⟨h4 ρ p, fun g hg => (hR ρ p).2 g (List.mem_cons_of_mem _ hg)⟩)
/-- symbols that are known go into the constant -/
noncomputable def enrm (env : aenv) : List (Nat × Int) → Int → List (Nat × Int) → (Int → List (Nat × Int) → ae) → ae
  | [], c, acc, k => k c acc
  | q :: l, c, acc, k => match xg env q.1 with
    | some (some i) => cond (zeq i.1 i.2) (enrm env l (Int.add c (Int.mul q.2 i.1)) acc k) (enrm env l c acc (fun c' a => k c' (q :: a)))
    | _ => enrm env l c acc (fun c' a => k c' (q :: a))
noncomputable def enor (env : aenv) (e : ae) : ae := match e.2 with
  | [] => e
  | _ => enrm env e.2 e.1 [] (fun c l => (c, l))
theorem enrm_ok {env : aenv} {ρ : Nat → Int} (hE : envR env ρ) : ∀ (l : List (Nat × Int)) (c : Int) (acc : List (Nat × Int)) (k : Int → List (Nat × Int) → ae), ∃ (c' : Int) (m : List (Nat × Int)), enrm env l c acc k = k c' m ∧ c' + evl ρ m = c + evl ρ l + evl ρ acc
  | [], c, acc, k => ⟨c, acc, rfl, by show c + evl ρ acc = c + 0 + evl ρ acc; omega⟩
  | q :: l, c, acc, k => by
    have keep : ∃ (c' : Int) (m : List (Nat × Int)), enrm env l c acc (fun c' a => k c' (q :: a)) = k c' m ∧ c' + evl ρ m = c + evl ρ (q :: l) + evl ρ acc := by
      obtain ⟨c', m, h1, h2⟩ := enrm_ok hE l c acc (fun c' a => k c' (q :: a))
      refine ⟨c', q :: m, h1, ?_⟩
      show c' + (q.2 * ρ q.1 + evl ρ m) = c + (q.2 * ρ q.1 + evl ρ l) + evl ρ acc
      omega
    unfold enrm
    split
    · rename_i i hg
      cases hz : zeq i.1 i.2 with
      | false => exact keep
      | true =>
        simp only [cond_true]
        obtain ⟨c', m, h1, h2⟩ := enrm_ok hE l (Int.add c (Int.mul q.2 i.1)) acc k
        refine ⟨c', m, h1, ?_⟩
        obtain ⟨b1, b2⟩ := hE q.1 i hg
        have e := zeq_iff.mp hz
        have e2 : ρ q.1 = i.1 := by omega
        show c' + evl ρ m = c + (q.2 * ρ q.1 + evl ρ l) + evl ρ acc
        rw [e2]
        have e3 : Int.add c (Int.mul q.2 i.1) = c + q.2 * i.1 := rfl
        rw [e3] at h2
        omega
    · exact keep
theorem enor_ok {env : aenv} {ρ : Nat → Int} (hE : envR env ρ) (e : ae) : ev ρ (enor env e) = ev ρ e := by
  unfold enor
  split
  · rfl
  · obtain ⟨c', m, h1, h2⟩ := enrm_ok hE e.2 e.1 [] (fun c l => (c, l))
    rw [h1]
    show c' + evl ρ m = e.1 + evl ρ e.2
    rw [h2]
    show e.1 + evl ρ e.2 + 0 = _
    omega
/-- e is at most 0: true where that can't be -/
noncomputable def aas (env : aenv) (fx : List ae) (e : ae) (k : aenv → List ae → Bool) : Bool :=
  match eu env e with
  | none => false
  | some u => cond (zle u 0) (k env fx)
    (efrc (escl e (-1)) (fun n => efrc (eadc n 1) (fun n1 => cond (elef env fx 2 n1) true
      (cond (znz e.2) (anar n e.2 env (fun env' => match (enor env' e).2 with
        | [] => k env' fx
        | [_] => k env' fx
        | _ => k env' (e :: fx))) false))))
theorem aas_ok {P : (Nat → Int) → Prop} (hP : ∃ ρ, P ρ) {env : aenv} {fx : List ae} {e : ae} {k : aenv → List ae → Bool} (h : aas env fx e k = true) (hR : ∀ ρ, P ρ → envR env ρ ∧ fxR fx ρ ∧ ev ρ e ≤ 0) :
    ∃ env' fx', k env' fx' = true ∧ ∀ ρ, P ρ → envR env' ρ ∧ fxR fx' ρ := by
  unfold aas at h
  cases hu : eu env e with
  | none => rw [hu] at h; cases h
  | some u =>
    rw [hu] at h
    dsimp only at h
    cases hz : zle u 0 with
    | true => rw [hz] at h; exact ⟨env, fx, h, fun ρ p => ⟨(hR ρ p).1, (hR ρ p).2.1⟩⟩
    | false =>
      rw [hz] at h
      simp only [cond_false] at h
      rw [efrc_eq, efrc_eq] at h
      cases hf : elef env fx 2 (eadc (escl e (-1)) 1) with
      | true =>
        obtain ⟨ρ, p⟩ := hP
        have := elef_ok (hR ρ p).1 (hR ρ p).2.1 2 _ hf
        rw [eadc_ev, escl_ev] at this
        have := (hR ρ p).2.2
        omega
      | false =>
        rw [hf] at h
        simp only [cond_false] at h
        obtain ⟨h1, h2⟩ := xcnb h
        obtain ⟨env', h3, h4⟩ := anar_ok hP _ _ _ h2 (fun ρ p => ⟨(hR ρ p).1, by rw [escl_ev]; have := (hR ρ p).2.2; omega⟩) (znz_ok h1)
        split at h3
        · exact ⟨env', fx, h3, fun ρ p => ⟨h4 ρ p, (hR ρ p).2.1⟩⟩
        · exact ⟨env', fx, h3, fun ρ p => ⟨h4 ρ p, (hR ρ p).2.1⟩⟩
        · refine ⟨env', e :: fx, h3, fun ρ p => ⟨h4 ρ p, fun f hf => ?_⟩⟩
          rcases List.mem_cons.mp hf with z | hf
          · rw [z]; exact (hR ρ p).2.2
          · exact (hR ρ p).2.1 f hf
end
section
/-! Conditions, and what the machine's arithmetic does to numbers in their range -/
noncomputable def aK (k : aenv → List ae → Bool) (env : aenv) (fx : List ae) : Bool := aprp fx env (fun env' => k env' fx)
noncomputable def acnd (o : Jvm.ClassFile.Cond) (env : aenv) (fx : List ae) (e : ae) (k : aenv → List ae → Bool) : Bool :=
  match e.2 with
  | [] => cond (crel o e.1 0) (k env fx) true
  | _ => match o with
    | .le => aas env fx e (aK k)
    | .lt => efrc (eadc e 1) (fun x => aas env fx x (aK k))
    | .ge => efrc (escl e (-1)) (fun x => aas env fx x (aK k))
    | .gt => efrc (eadd (1, []) e (-1)) (fun x => aas env fx x (aK k))
    | .eq => aas env fx e (fun env1 fx1 => efrc (escl e (-1)) (fun x => aas env1 fx1 x (aK k)))
    | .ne => match (enor env e).2 with
      | [] => cond (zeq (enor env e).1 0) true (k env fx)
      | _ => efrc (escl e (-1)) (fun x => cond (elef env fx 2 x) (efrc (eadc x 1) (fun z => aas env fx z (aK k)))
          (cond (elef env fx 2 e) (efrc (eadc e 1) (fun z => aas env fx z (aK k))) (k env fx)))
theorem aK_ok {P : (Nat → Int) → Prop} (hP : ∃ ρ, P ρ) {k : aenv → List ae → Bool} {env : aenv} {fx : List ae} (h : aK k env fx = true) (hR : ∀ ρ, P ρ → envR env ρ ∧ fxR fx ρ) : ∃ env' fx', k env' fx' = true ∧ ∀ ρ, P ρ → envR env' ρ ∧ fxR fx' ρ := by
  obtain ⟨env', h1, h2⟩ := aprp_ok hP _ _ _ h hR
  exact ⟨env', fx, h1, fun ρ p => ⟨h2 ρ p, (hR ρ p).2⟩⟩
theorem aas_K {P : (Nat → Int) → Prop} (hP : ∃ ρ, P ρ) {env : aenv} {fx : List ae} {e : ae} {k : aenv → List ae → Bool} (h : aas env fx e (aK k) = true) (hR : ∀ ρ, P ρ → envR env ρ ∧ fxR fx ρ ∧ ev ρ e ≤ 0) :
    ∃ env' fx', k env' fx' = true ∧ ∀ ρ, P ρ → envR env' ρ ∧ fxR fx' ρ := by
  obtain ⟨env', fx', h1, h2⟩ := aas_ok hP h hR
  exact aK_ok hP h1 h2
theorem acnd_ok {P : (Nat → Int) → Prop} (hP : ∃ ρ, P ρ) {o : Jvm.ClassFile.Cond} {env : aenv} {fx : List ae} {e : ae} {k : aenv → List ae → Bool} (h : acnd o env fx e k = true) (hR : ∀ ρ, P ρ → envR env ρ ∧ fxR fx ρ ∧ crel o (ev ρ e) 0 = true) :
    ∃ env' fx', k env' fx' = true ∧ ∀ ρ, P ρ → envR env' ρ ∧ fxR fx' ρ := by
  have hR2 : ∀ ρ, P ρ → envR env ρ ∧ fxR fx ρ := fun ρ p => ⟨(hR ρ p).1, (hR ρ p).2.1⟩
  unfold acnd at h
  split at h
  · rename_i hn
    obtain ⟨ρ0, p0⟩ := hP
    have e0 : ev ρ0 e = e.1 := by unfold ev; rw [hn]; show e.1 + 0 = e.1; omega
    have := (hR ρ0 p0).2.2
    rw [e0] at this
    rw [this] at h
    exact ⟨env, fx, h, hR2⟩
  · split at h
    · refine aas_K hP h (fun ρ p => ⟨(hR ρ p).1, (hR ρ p).2.1, ?_⟩)
      exact of_decide_eq_true (hR ρ p).2.2
    · rw [efrc_eq] at h
      refine aas_K hP h (fun ρ p => ⟨(hR ρ p).1, (hR ρ p).2.1, ?_⟩)
      have : ev ρ e < 0 := of_decide_eq_true (hR ρ p).2.2
      rw [eadc_ev]; omega
    · rw [efrc_eq] at h
      refine aas_K hP h (fun ρ p => ⟨(hR ρ p).1, (hR ρ p).2.1, ?_⟩)
      have : 0 ≤ ev ρ e := of_decide_eq_true (hR ρ p).2.2
      rw [escl_ev]; omega
    · rw [efrc_eq] at h
      refine aas_K hP h (fun ρ p => ⟨(hR ρ p).1, (hR ρ p).2.1, ?_⟩)
      have : 0 < ev ρ e := of_decide_eq_true (hR ρ p).2.2
      rw [eadd_ev]
      have e1 : ev ρ ((1, []) : ae) = 1 := ecst_ev ρ 1
      rw [e1]; omega
    · have hz : ∀ ρ, P ρ → ev ρ e = 0 := fun ρ p => of_decide_eq_true (hR ρ p).2.2
      obtain ⟨env1, fx1, h1, h2⟩ := aas_ok hP h (fun ρ p => ⟨(hR ρ p).1, (hR ρ p).2.1, by rw [hz ρ p]; exact Int.le_refl _⟩)
      rw [efrc_eq] at h1
      exact aas_K hP h1 (fun ρ p => ⟨(h2 ρ p).1, (h2 ρ p).2, by rw [escl_ev, hz ρ p]; omega⟩)
    · have hz : ∀ ρ, P ρ → ev ρ e ≠ 0 := fun ρ p => of_decide_eq_true (hR ρ p).2.2
      split at h
      · rename_i hn
        cases hc : zeq (enor env e).1 0 with
        | false => rw [hc] at h; exact ⟨env, fx, h, hR2⟩
        | true =>
          obtain ⟨ρ0, p0⟩ := hP
          have e1 := enor_ok (hR ρ0 p0).1 e
          have e2 : ev ρ0 (enor env e) = (enor env e).1 := by unfold ev; rw [hn]; show (enor env e).1 + 0 = _; omega
          have e3 := zeq_iff.mp hc
          have := hz ρ0 p0
          omega
      · rw [efrc_eq] at h
        cases h1 : elef env fx 2 (escl e (-1)) with
        | true =>
          rw [h1] at h
          simp only [cond_true] at h
          rw [efrc_eq] at h
          refine aas_K hP h (fun ρ p => ⟨(hR ρ p).1, (hR ρ p).2.1, ?_⟩)
          have a1 := elef_ok (hR ρ p).1 (hR ρ p).2.1 2 _ h1
          rw [escl_ev] at a1
          have := hz ρ p
          rw [eadc_ev, escl_ev]; omega
        | false =>
          rw [h1] at h
          simp only [cond_false] at h
          cases h2 : elef env fx 2 e with
          | true =>
            rw [h2] at h
            simp only [cond_true] at h
            rw [efrc_eq] at h
            refine aas_K hP h (fun ρ p => ⟨(hR ρ p).1, (hR ρ p).2.1, ?_⟩)
            have a1 := elef_ok (hR ρ p).1 (hR ρ p).2.1 2 _ h2
            have := hz ρ p
            rw [eadc_ev]; omega
          | false => rw [h2] at h; exact ⟨env, fx, h, hR2⟩
/-! arithmetic -/
theorem nI_em {a b : Nat} (h : a % 4294967296 = b % 4294967296) : nI a = nI b := by rw [← x32 a, h, x32]
theorem lN_em {a b : Nat} (h : a % 18446744073709551616 = b % 18446744073709551616) : lN a = lN b := by rw [← x64 a, h, x64]
theorem i32_add (a b : Int) : i32 a + i32 b = i32 (a + b) := by
  unfold i32
  rw [nI_add]
  apply nI_em
  unfold c32
  omega
theorem i32_sub (a b : Int) : i32 a - i32 b = i32 (a - b) := by
  unfold i32
  rw [← nI_sub]
  apply nI_em
  unfold c32
  omega
theorem c32_mod (a : Int) : ((c32 a : Nat) : Int) = a % 4294967296 := by unfold c32; omega
theorem c64_mod (a : Int) : ((c64 a : Nat) : Int) = a % 18446744073709551616 := by unfold c64; omega
theorem i32_mul (a b : Int) : i32 a * i32 b = i32 (a * b) := by
  unfold i32
  rw [pk_mul]
  apply nI_em
  apply Int.ofNat.inj
  show (((c32 a * c32 b % 4294967296 : Nat)) : Int) = ((c32 (a * b) % 4294967296 : Nat) : Int)
  rw [Int.natCast_emod, Int.natCast_emod, Int.natCast_mul, c32_mod, c32_mod, c32_mod]
  show a % 4294967296 * (b % 4294967296) % 4294967296 = a * b % 4294967296 % 4294967296
  rw [← Int.mul_emod, Int.emod_emod_of_dvd _ (Int.dvd_refl _)]
theorem i32_neg (a : Int) : -i32 a = i32 (-a) := by
  have h := i32_sub 0 a
  rw [show i32 0 = 0 from rfl] at h
  rw [show (0 : Int32) - i32 a = -i32 a from Int32.zero_sub _] at h
  rw [h]
  congr 1
  omega
theorem lN_add2 (a b : Nat) : lN a + lN b = lN (a + b) := (Int64.ofNat_add a b).symm
theorem lN_mul2 (a b : Nat) : lN a * lN b = lN (a * b) := (Int64.ofNat_mul a b).symm
theorem i64_add (a b : Int) : i64 a + i64 b = i64 (a + b) := by
  unfold i64
  rw [lN_add2]
  apply lN_em
  unfold c64
  omega
theorem i64_sub (a b : Int) : i64 a - i64 b = i64 (a - b) := by
  have h : i64 (a - b) + i64 b = i64 a := by
    rw [i64_add]; congr 1; omega
  rw [← h, Int64.add_sub_cancel]
theorem i64_mul (a b : Int) : i64 a * i64 b = i64 (a * b) := by
  unfold i64
  rw [lN_mul2]
  apply lN_em
  apply Int.ofNat.inj
  show (((c64 a * c64 b % 18446744073709551616 : Nat)) : Int) = ((c64 (a * b) % 18446744073709551616 : Nat) : Int)
  rw [Int.natCast_emod, Int.natCast_emod, Int.natCast_mul, c64_mod, c64_mod, c64_mod]
  show a % 18446744073709551616 * (b % 18446744073709551616) % 18446744073709551616 = a * b % 18446744073709551616 % 18446744073709551616
  rw [← Int.mul_emod, Int.emod_emod_of_dvd _ (Int.dvd_refl _)]
theorem i64_i32 {a : Int} (h : cI a) : (i64 a).toInt32.toInt = a := by
  have e : (i64 a).toInt32 = i32 a := by
    unfold i64 i32
    rw [lN_l2i]
    apply nI_em
    unfold c64 c32
    unfold cI at h
    omega
  rw [e, i32_int h]
theorem i2b_in (x : Int32) : -128 ≤ x.toInt8.toInt32.toInt ∧ x.toInt8.toInt32.toInt ≤ 127 := by
  generalize x.toInt8 = w
  have h1 := w.toBitVec.toInt_lt
  have h2 := w.toBitVec.le_toInt
  have e : w.toInt32.toInt = w.toBitVec.toInt := by rw [Int8.toInt_toInt32]; rfl
  rw [e]
  generalize w.toBitVec.toInt = z at h1 h2
  constructor <;> omega
theorem i2b_id {a : Int} (h1 : -128 ≤ a) (h2 : a ≤ 127) : (i32 a).toInt8.toInt32.toInt = a := by
  rw [Int8.toInt_toInt32]
  have e : (i32 a).toInt8.toInt = (i32 a).toInt.bmod (2 ^ 8) := Int32.toInt_toInt8 (i32 a)
  rw [e, i32_int (by unfold cI; omega)]
  rw [Int.bmod_def]
  split <;> omega
theorem i2s_in (x : Int32) : -32768 ≤ x.toInt16.toInt32.toInt ∧ x.toInt16.toInt32.toInt ≤ 32767 := by
  generalize x.toInt16 = w
  have h1 := w.toBitVec.toInt_lt
  have h2 := w.toBitVec.le_toInt
  have e : w.toInt32.toInt = w.toBitVec.toInt := by rw [Int16.toInt_toInt32]; rfl
  rw [e]
  generalize w.toBitVec.toInt = z at h1 h2
  constructor <;> omega
theorem i2s_id {a : Int} (h1 : -32768 ≤ a) (h2 : a ≤ 32767) : (i32 a).toInt16.toInt32.toInt = a := by
  rw [Int16.toInt_toInt32]
  have e : (i32 a).toInt16.toInt = (i32 a).toInt.bmod (2 ^ 16) := Int32.toInt_toInt16 (i32 a)
  rw [e, i32_int (by unfold cI; omega)]
  rw [Int.bmod_def]
  split <;> omega
theorem i2c_int (a : Nat) : (nI (a % 65536)).toInt = ((a % 65536 : Nat) : Int) := nI_toInt (by omega)
theorem i2c_in (x : Int32) : 0 ≤ ((x.toUInt32 % 65536).toInt32).toInt ∧ ((x.toUInt32 % 65536).toInt32).toInt ≤ 65535 := by
  have h := nI_c65 (xnu x)
  rw [nI_xnu] at h
  rw [h, i2c_int]
  omega
theorem i2c_id {a : Int} (h1 : 0 ≤ a) (h2 : a ≤ 65535) : (((i32 a).toUInt32 % 65536).toInt32).toInt = a := by
  unfold i32
  rw [nI_c65, i2c_int]
  unfold c32
  omega
theorem toInt_xnu {Z : Int32} (h : xnu Z < 2147483648) : Z.toInt = (xnu Z : Int) := by
  have := nI_toInt (n := xnu Z) h
  rw [nI_xnu] at this
  exact this
theorem xnu_i32 {y : Int} (h : cI y) (h0 : 0 ≤ y) : xnu (i32 y) = y.toNat := by
  have e : c32 y = y.toNat := c32_nat h0 (by unfold cI at h; omega)
  unfold i32
  rw [e]
  show (BitVec.ofNat 32 _).toNat = _
  rw [BitVec.toNat_ofNat]
  apply Nat.mod_eq_of_lt
  unfold cI at h
  omega
theorem xnu_and (X Y : Int32) : xnu (X &&& Y) = xnu X &&& xnu Y := by
  unfold xnu
  rw [Int32.toBitVec_and, BitVec.toNat_and]
theorem xnu_or (X Y : Int32) : xnu (X ||| Y) = xnu X ||| xnu Y := by
  unfold xnu
  rw [Int32.toBitVec_or, BitVec.toNat_or]
theorem iand_r (X : Int32) {y : Int} (h : cI y) (h0 : 0 ≤ y) : 0 ≤ (X &&& i32 y).toInt ∧ (X &&& i32 y).toInt ≤ y := by
  have e1 := xnu_i32 h h0
  have e2 : xnu (X &&& i32 y) ≤ y.toNat := by
    rw [xnu_and, e1]
    exact Nat.and_le_right
  unfold cI at h
  rw [toInt_xnu (by omega)]
  omega
theorem iand_l (X : Int32) {y : Int} (h : cI y) (h0 : 0 ≤ y) : 0 ≤ (i32 y &&& X).toInt ∧ (i32 y &&& X).toInt ≤ y := by
  have e1 := xnu_i32 h h0
  have e2 : xnu (i32 y &&& X) ≤ y.toNat := by
    rw [xnu_and, e1]
    exact Nat.and_le_left
  unfold cI at h
  rw [toInt_xnu (by omega)]
  omega
theorem ior_in {x y : Int} (hx : cI x) (hy : cI y) (x0 : 0 ≤ x) (y0 : 0 ≤ y) {k : Nat} (h1 : x.toNat < 2 ^ k) (h2 : y.toNat < 2 ^ k) (hk : k ≤ 31) : 0 ≤ (i32 x ||| i32 y).toInt ∧ (i32 x ||| i32 y).toInt ≤ (2 ^ k - 1 : Int) := by
  have e : xnu (i32 x ||| i32 y) < 2 ^ k := by
    rw [xnu_or, xnu_i32 hx x0, xnu_i32 hy y0]
    exact Nat.or_lt_two_pow h1 h2
  have hp : 2 ^ k ≤ 2147483648 := Nat.le_trans (Nat.pow_le_pow_right (by decide) hk) (by decide)
  rw [toInt_xnu (by omega)]
  refine ⟨Int.natCast_nonneg _, ?_⟩
  have e2 : ((2 ^ k : Nat) : Int) = (2 ^ k : Int) := by rw [Int.natCast_pow]; rfl
  rw [← e2]
  omega
theorem i32s_l : ∀ n, n < 32 → ((nI n &&& 31).toBitVec.smod 32).toNat = n := by decide +kernel
theorem ishl_in {x s : Int} (x0 : 0 ≤ x) (s0 : 0 ≤ s) (s1 : s ≤ 30) (hf : x * 2 ^ s.toNat < 2147483648) : (i32 x <<< (i32 s &&& 31)).toInt = x * 2 ^ s.toNat := by
  have hx : x < 2147483648 := by
    have : 0 < (2 : Int) ^ s.toNat := Int.pow_pos (by decide)
    have h2 : x * 1 ≤ x * 2 ^ s.toNat := Int.mul_le_mul_of_nonneg_left (by omega) x0
    omega
  have e1 : c32 x = x.toNat := c32_nat x0 (by omega)
  have e2 : c32 s = s.toNat := c32_nat s0 (by omega)
  unfold i32
  rw [e1, e2]
  have hn : ((x.toNat * 2 ^ s.toNat : Nat) : Int) = x * 2 ^ s.toNat := by
    rw [Int.natCast_mul, Int.natCast_pow, Int.toNat_of_nonneg x0]; rfl
  rw [pk_shlN (n := x.toNat) (nI s.toNat &&& 31) s.toNat (i32s_l _ (by omega)) (by omega), nI_toInt (by omega), hn]
theorem ishr_in (X s : Int32) : (0 ≤ X.toInt → 0 ≤ (X >>> s).toInt ∧ (X >>> s).toInt ≤ X.toInt) ∧ (X.toInt ≤ 0 → X.toInt ≤ (X >>> s).toInt ∧ (X >>> s).toInt ≤ 0) ∧ (X.toInt < 0 → (X >>> s).toInt < 0) := by
  rw [pk_shr X s _ rfl]
  generalize (s.toBitVec.smod 32).toNat = k
  generalize X.toInt = x
  rw [Int.shiftRight_eq_div_pow]
  have hp : 0 < ((2 ^ k : Nat) : Int) := by
    have := Nat.two_pow_pos k
    omega
  generalize ((2 ^ k : Nat) : Int) = p at hp
  refine ⟨fun h => ⟨Int.ediv_nonneg h (by omega), Int.ediv_le_self p h⟩, fun h => ⟨?_, ?_⟩, fun h => Int.ediv_neg_of_neg_of_pos h hp⟩
  · rw [Int.le_ediv_iff_mul_le hp]
    have := Int.mul_le_mul_of_nonpos_left (a := x) h (show (1 : Int) ≤ p by omega)
    omega
  · have : x / p ≤ 0 / p := Int.ediv_le_ediv hp h
    rw [Int.zero_ediv] at this
    exact this
theorem i32_bmod (z : Int) : (i32 z).toInt = z.bmod 4294967296 := by
  unfold i32
  rw [nI_int]
  unfold c32
  rw [Int.bmod_def]
  split <;> split <;> omega
theorem i64_bmod (z : Int) : (i64 z).toInt = z.bmod 18446744073709551616 := by
  unfold i64
  rw [lN_int]
  unfold c64
  rw [Int.bmod_def]
  split <;> split <;> omega
theorem i32_div {a b : Int} (ha : cI a) (hb : cI b) : i32 a / i32 b = i32 (a.tdiv b) := by
  apply Int32.toInt_inj.mp
  rw [i32_bmod, Int32.toInt_div, i32_int ha, i32_int hb]
theorem i64_div {a b : Int} (ha : cL a) (hb : cL b) : i64 a / i64 b = i64 (a.tdiv b) := by
  apply Int64.toInt_inj.mp
  rw [i64_bmod, Int64.toInt_div, i64_int ha, i64_int hb]
theorem tmod_in (a : Int) {b : Int} (hb : b ≠ 0) : (0 ≤ a → 0 ≤ a.tmod b ∧ a.tmod b ≤ a) ∧ (a ≤ 0 → a ≤ a.tmod b ∧ a.tmod b ≤ 0) ∧ (0 < b → -b < a.tmod b ∧ a.tmod b < b) ∧ (b < 0 → b < a.tmod b ∧ a.tmod b < -b) := by
  have pos : ∀ x : Int, 0 ≤ x → 0 ≤ x.tmod b ∧ x.tmod b ≤ x ∧ (0 < b → x.tmod b < b) ∧ (b < 0 → x.tmod b < -b) := by
    intro x hx
    rw [Int.tmod_eq_emod_of_nonneg hx]
    refine ⟨Int.emod_nonneg x hb, ?_, fun h => Int.emod_lt_of_pos x h, fun h => ?_⟩
    · by_cases h : 0 < b
      · have := Int.mul_ediv_add_emod x b
        have h2 : 0 ≤ b * (x / b) := Int.mul_nonneg (by omega) (Int.ediv_nonneg hx (by omega))
        omega
      · have h1 : 0 < -b := by omega
        have := Int.mul_ediv_add_emod x (-b)
        have h2 : 0 ≤ (-b) * (x / (-b)) := Int.mul_nonneg (by omega) (Int.ediv_nonneg hx (by omega))
        rw [Int.emod_neg] at this
        omega
    · have := Int.emod_lt_of_pos x (show 0 < -b by omega)
      rw [Int.emod_neg] at this
      exact this
  by_cases h : 0 ≤ a
  · obtain ⟨h1, h2, h3, h4⟩ := pos a h
    refine ⟨fun _ => ⟨h1, h2⟩, fun h5 => ⟨by omega, by omega⟩, fun q => ⟨by omega, h3 q⟩, fun q => ⟨by omega, h4 q⟩⟩
  · obtain ⟨h1, h2, h3, h4⟩ := pos (-a) (by omega)
    rw [Int.neg_tmod] at h1 h2 h3 h4
    refine ⟨fun q => absurd q h, fun _ => ⟨by omega, by omega⟩, fun q => ?_, fun q => ?_⟩
    · have := h3 q; constructor <;> omega
    · have := h4 q; constructor <;> omega
theorem i32_rem {a b : Int} (ha : cI a) (hb : cI b) (h0 : b ≠ 0) : (i32 a - i32 a / i32 b * i32 b).toInt = a.tmod b := by
  rw [i32_div ha hb, i32_mul, i32_sub]
  have e : a - a.tdiv b * b = a.tmod b := by
    have := Int.mul_tdiv_add_tmod a b
    rw [Int.mul_comm] at this
    omega
  rw [e]
  apply i32_int
  obtain ⟨h1, h2, -, -⟩ := tmod_in a h0
  unfold cI at *
  by_cases h : 0 ≤ a
  · have := h1 h; omega
  · have := h2 (by omega); omega
theorem i64_rem {a b : Int} (ha : cL a) (hb : cL b) (h0 : b ≠ 0) : (i64 a - i64 a / i64 b * i64 b).toInt = a.tmod b := by
  rw [i64_div ha hb, i64_mul, i64_sub]
  have e : a - a.tdiv b * b = a.tmod b := by
    have := Int.mul_tdiv_add_tmod a b
    rw [Int.mul_comm] at this
    omega
  rw [e]
  apply i64_int
  obtain ⟨h1, h2, -, -⟩ := tmod_in a h0
  unfold cL at *
  by_cases h : 0 ≤ a
  · have := h1 h; omega
  · have := h2 (by omega); omega
theorem tdiv_in {a b al ah bl bh : Int} (h1 : al ≤ a) (h2 : a ≤ ah) (h3 : bl ≤ b) (h4 : b ≤ bh) (a0 : 0 ≤ al) (b0 : 0 < bl) : Int.ediv al bh ≤ a.tdiv b ∧ a.tdiv b ≤ Int.ediv ah bl := by
  rw [Int.tdiv_eq_ediv_of_nonneg (show 0 ≤ a by omega)]
  show al / bh ≤ a / b ∧ a / b ≤ ah / bl
  constructor
  · rw [Int.le_ediv_iff_mul_le (show 0 < b by omega)]
    have e1 : al / bh * b ≤ al / bh * bh := Int.mul_le_mul_of_nonneg_left h4 (Int.ediv_nonneg a0 (by omega))
    have e2 : al / bh * bh ≤ al := Int.ediv_mul_le al (by omega)
    omega
  · rw [Int.le_ediv_iff_mul_le b0]
    have e1 : a / b * bl ≤ a / b * b := Int.mul_le_mul_of_nonneg_left h3 (Int.ediv_nonneg (by omega) (by omega))
    have e2 : a / b * b ≤ a := Int.ediv_mul_le a (by omega)
    omega
/-- a product's bounds -/
def zmul4 (a b c d : Int) : Int × Int := (zmn (zmn (Int.mul a c) (Int.mul a d)) (zmn (Int.mul b c) (Int.mul b d)), zmx (zmx (Int.mul a c) (Int.mul a d)) (zmx (Int.mul b c) (Int.mul b d)))
theorem zmul_1 {x y c d : Int} (h3 : c ≤ y) (h4 : y ≤ d) : zmn (x * c) (x * d) ≤ x * y ∧ x * y ≤ zmx (x * c) (x * d) := by
  by_cases h : 0 ≤ x
  · have e1 := Int.mul_le_mul_of_nonneg_left h3 h
    have e2 := Int.mul_le_mul_of_nonneg_left h4 h
    exact ⟨Int.le_trans (zmn_l _ _) e1, Int.le_trans e2 (zmx_r _ _)⟩
  · have e1 := Int.mul_le_mul_of_nonpos_left (a := x) (by omega) h3
    have e2 := Int.mul_le_mul_of_nonpos_left (a := x) (by omega) h4
    exact ⟨Int.le_trans (zmn_r _ _) e2, Int.le_trans e1 (zmx_l _ _)⟩
theorem zmul4_ok {x y a b c d : Int} (h1 : a ≤ x) (h2 : x ≤ b) (h3 : c ≤ y) (h4 : y ≤ d) : (zmul4 a b c d).1 ≤ x * y ∧ x * y ≤ (zmul4 a b c d).2 := by
  have k1 := zmul_1 (x := y) h1 h2
  have k2 := zmul_1 (x := a) h3 h4
  have k3 := zmul_1 (x := b) h3 h4
  rw [Int.mul_comm y a, Int.mul_comm y b, Int.mul_comm y x] at k1
  constructor
  · refine Int.le_trans ?_ k1.1
    exact zmn_of (Int.le_trans (zmn_l _ _) k2.1) (Int.le_trans (zmn_r _ _) k3.1)
  · refine Int.le_trans k1.2 ?_
    exact zmx_of (Int.le_trans k2.2 (zmx_l _ _)) (Int.le_trans k3.2 (zmx_r _ _))
end
section
/-! Runs as a function: what one instruction does to locals (a function), stack and numbers; nothing is checked here -/
abbrev dlf : Type := Nat → cv
abbrev dO : Type := (Nat × dlf × List cv × cg) ⊕ (Option cv ⊕ (List cv × List cv))
abbrev dF : Type := Nat → Nat → dlf → List cv → cg → Option (cg × Option cv)
def w32 (z : Int) : Int := (z + 2147483648) % 4294967296 - 2147483648
def w64 (z : Int) : Int := (z + 9223372036854775808) % 18446744073709551616 - 9223372036854775808
theorem i32_w (z : Int) : (i32 z).toInt = w32 z := by
  unfold i32
  rw [nI_int]
  unfold c32 w32
  split <;> omega
theorem i64_w (z : Int) : (i64 z).toInt = w64 z := by
  unfold i64
  rw [lN_int]
  unfold c64 w64
  split <;> omega
theorem nI_w (n : Nat) : (nI n).toInt = w32 (n : Int) := by
  rw [nI_int]
  unfold w32
  split <;> omega
theorem lN_w (n : Nat) : (lN n).toInt = w64 (n : Int) := by
  rw [lN_int]
  unfold w64
  split <;> omega
def dset (lf : dlf) (i : Nat) (v : cv) : dlf := fun j => cond (Nat.beq j i) v (lf j)
def dnxt (pc : Nat) (lf : dlf) (st : List cv) (g : cg) : Option dO := some (.inl (pc, lf, st, g))
/-- what a place of a cell holds -/
noncomputable def dval (h0 : xheap) (g : cg) (k j : Nat) : cv := match xg h0 k with
  | none => (0, 0)
  | some q => match xg q.2.2 j with
    | none => (0, 0)
    | some w => cval w (g k j)
noncomputable def dln (h0 : xheap) (k : Nat) : Nat := match xg h0 k with
  | none => 0
  | some q => q.2.1
def d_sto (nx r1 : Nat) (lf : dlf) (st : List cv) (g : cg) : Option dO := match st with
  | v :: r => dnxt nx (dset lf r1 v) r g
  | _ => none
def d_bi (F : Int32 → Int32 → Int32) (nx : Nat) (lf : dlf) (st : List cv) (g : cg) : Option dO := match st with
  | b :: a :: r => dnxt nx lf ((0, (F (i32 a.2) (i32 b.2)).toInt) :: r) g
  | _ => none
def d_bl (F : Int64 → Int64 → Int64) (nx : Nat) (lf : dlf) (st : List cv) (g : cg) : Option dO := match st with
  | b :: a :: r => dnxt nx lf ((2, (F (i64 a.2) (i64 b.2)).toInt) :: r) g
  | _ => none
def d_sl (F : Int64 → Int32 → Int64) (nx : Nat) (lf : dlf) (st : List cv) (g : cg) : Option dO := match st with
  | b :: a :: r => dnxt nx lf ((2, (F (i64 a.2) (i32 b.2)).toInt) :: r) g
  | _ => none
def d_adi (f : Int → Int → Int) (nx : Nat) (lf : dlf) (st : List cv) (g : cg) : Option dO := match st with
  | b :: a :: r => dnxt nx lf ((0, w32 (f a.2 b.2)) :: r) g
  | _ => none
def d_adl (f : Int → Int → Int) (nx : Nat) (lf : dlf) (st : List cv) (g : cg) : Option dO := match st with
  | b :: a :: r => dnxt nx lf ((2, w64 (f a.2 b.2)) :: r) g
  | _ => none
theorem d_adi_ok {f : Int → Int → Int} {F : Int32 → Int32 → Int32} (h : ∀ a b, F (i32 a) (i32 b) = i32 (f a b)) (nx : Nat) (lf : dlf) (st : List cv) (g : cg) : d_adi f nx lf st g = d_bi F nx lf st g := by
  match st with
  | [] => rfl
  | [_] => rfl
  | b :: a :: r =>
    show dnxt nx lf ((0, w32 (f a.2 b.2)) :: r) g = dnxt nx lf ((0, (F (i32 a.2) (i32 b.2)).toInt) :: r) g
    rw [h, i32_w]
theorem d_adl_ok {f : Int → Int → Int} {F : Int64 → Int64 → Int64} (h : ∀ a b, F (i64 a) (i64 b) = i64 (f a b)) (nx : Nat) (lf : dlf) (st : List cv) (g : cg) : d_adl f nx lf st g = d_bl F nx lf st g := by
  match st with
  | [] => rfl
  | [_] => rfl
  | b :: a :: r =>
    show dnxt nx lf ((2, w64 (f a.2 b.2)) :: r) g = dnxt nx lf ((2, (F (i64 a.2) (i64 b.2)).toInt) :: r) g
    rw [h, i64_w]
theorem d_k0 (nx r1 : Nat) (lf : dlf) (st : List cv) (g : cg) : dnxt nx lf ((0, w32 (r1 : Int)) :: st) g = dnxt nx lf ((0, (nI r1).toInt) :: st) g := by rw [nI_w]
theorem d_k2 (nx r1 : Nat) (lf : dlf) (st : List cv) (g : cg) : dnxt nx lf ((2, w64 (r1 : Int)) :: st) g = dnxt nx lf ((2, (lN r1).toInt) :: st) g := by rw [lN_w]
def d_ui (F : Int32 → Int32) (nx : Nat) (lf : dlf) (st : List cv) (g : cg) : Option dO := match st with
  | a :: r => dnxt nx lf ((0, (F (i32 a.2)).toInt) :: r) g
  | _ => none
def d_nul (nx tg : Nat) (t : Bool) (lf : dlf) (st : List cv) (g : cg) : Option dO := match st with
  | v :: r => dnxt (cond (Nat.beq (xkd v.1) 2) (cond t nx tg) (cond t tg nx)) lf r g
  | _ => none
noncomputable def d_ald (h0 : xheap) (sv : Nat → Int32) (eb : Nat → List Nat) (kd nx : Nat) (lf : dlf) (st : List cv) (g : cg) : Option dO := match st with
  | i :: w :: r => dnxt nx lf ((cond (Nat.beq w.1 4) (dval h0 g w.2.toNat i.2.toNat) (cond (Nat.beq kd 13) (0, (sv i.2.toNat).toInt) (0, (nI ((eb w.2.toNat).getD i.2.toNat 0)).toInt))) :: r) g
  | _ => none
def d_ast (kd nx : Nat) (lf : dlf) (st : List cv) (g : cg) : Option dO := match st with
  | v :: i :: w :: r => dnxt nx lf r (cup g w.2.toNat i.2.toNat (cstv kd v).2)
  | _ => none
noncomputable def d_call (mi : xmi) (r1 : Nat) (inst : Bool) (st : List cv) : Option dO := match xg mi r1 with
  | none => none
  | some u => match cpop (cond inst (u.2.2.1 + 1) u.2.2.1) [] st with
    | none => none
    | some q => some (.inr (.inr q))
def d_dup (nx : Nat) (lf : dlf) (st : List cv) (g : cg) : Option dO := match st with
  | a :: r => dnxt nx lf (a :: a :: r) g
  | _ => none
def d_pop (nx : Nat) (lf : dlf) (st : List cv) (g : cg) : Option dO := match st with
  | _ :: r => dnxt nx lf r g
  | _ => none
def d_dup2 (nx : Nat) (lf : dlf) (st : List cv) (g : cg) : Option dO := match st with
  | a :: r => cond (Nat.beq (xkd a.1) 1) (dnxt nx lf (a :: a :: r) g) (match r with
    | b :: r' => dnxt nx lf (a :: b :: a :: b :: r') g
    | _ => none)
  | _ => none
def d_icmp (o : Jvm.ClassFile.Cond) (nx tg : Nat) (lf : dlf) (st : List cv) (g : cg) : Option dO := match st with
  | b :: a :: r => dnxt (cond (crel o a.2 b.2) tg nx) lf r g
  | _ => none
def d_if (o : Jvm.ClassFile.Cond) (nx tg : Nat) (lf : dlf) (st : List cv) (g : cg) : Option dO := match st with
  | a :: r => dnxt (cond (crel o a.2 0) tg nx) lf r g
  | _ => none
def d_lcmp (nx : Nat) (lf : dlf) (st : List cv) (g : cg) : Option dO := match st with
  | b :: a :: r => dnxt nx lf ((0, csgn (a.2 - b.2)) :: r) g
  | _ => none
def d_i2l (nx : Nat) (lf : dlf) (st : List cv) (g : cg) : Option dO := match st with
  | a :: r => dnxt nx lf ((2, a.2) :: r) g
  | _ => none
def d_l2i (nx : Nat) (lf : dlf) (st : List cv) (g : cg) : Option dO := match st with
  | a :: r => dnxt nx lf ((0, (i64 a.2).toInt32.toInt) :: r) g
  | _ => none
def d_tab (a b e : Int) (f : Array Int) (pc : Nat) (lf : dlf) (st : List cv) (g : cg) : Option dO := match st with
  | z :: r => (match xts a b e f pc z.2 with
    | none => none
    | some t => dnxt t lf r g)
  | _ => none
def d_lkp (a : Int) (f : Array (Int × Int)) (pc : Nat) (lf : dlf) (st : List cv) (g : cg) : Option dO := match st with
  | z :: r => dnxt ((pc : Int) + Op.lookupswitch.offset f.toList a z.2).toNat lf r g
  | _ => none
noncomputable def d_get (h0 : xheap) (nx r2 : Nat) (lf : dlf) (st : List cv) (g : cg) : Option dO := match st with
  | w :: r => dnxt nx lf ((cond (Nat.beq w.1 4) (dval h0 g w.2.toNat r2) (cond (Nat.beq r2 0) (6, w.2 + 1) (0, 0))) :: r) g
  | _ => none
def d_put (nx r2 : Nat) (lf : dlf) (st : List cv) (g : cg) : Option dO := match st with
  | v :: w :: r => dnxt nx lf r (cup g w.2.toNat r2 v.2)
  | _ => none
noncomputable def d_len (h0 : xheap) (el : Nat → Nat) (nx : Nat) (lf : dlf) (st : List cv) (g : cg) : Option dO := match st with
  | w :: r => dnxt nx lf ((0, cond (Nat.beq w.1 4) (dln h0 w.2.toNat : Int) (el w.2.toNat : Int)) :: r) g
  | _ => none
def d_cpy (nx : Nat) (lf : dlf) (st : List cv) (g : cg) : Option dO := match st with
  | m :: dp :: b :: sp :: a :: r => dnxt nx lf r (ccp g a.2.toNat b.2.toNat sp.2.toNat dp.2.toNat m.2.toNat)
  | _ => none
def d_rv (k : Nat) (st : List cv) : Option dO := match st with
  | [v] => some (.inr (.inl (some (k, v.2))))
  | _ => none
noncomputable def dnx (h0 : xheap) (sv : Nat → Int32) (mi : xmi) (el : Nat → Nat) (eb : Nat → List Nat) (ins : Instr) (nx tg r1 r2 pc : Nat) (lf : dlf) (st : List cv) (g : cg) : Option dO :=
  match ins with
  | .iconst _ => dnxt nx lf ((0, w32 (r1 : Int)) :: st) g
  | .bipush _ => dnxt nx lf ((0, w32 (r1 : Int)) :: st) g
  | .sipush _ => dnxt nx lf ((0, w32 (r1 : Int)) :: st) g
  | .ldc_w _ => dnxt nx lf ((0, w32 (r1 : Int)) :: st) g
  | .ldc _ => cond (Nat.beq r2 0) (dnxt nx lf ((0, w32 (r1 : Int)) :: st) g) (cond (Nat.beq r2 1) (dnxt nx lf ((6, 1) :: st) g) (dnxt nx lf ((6, 3) :: st) g))
  | .lconst _ => dnxt nx lf ((2, w64 (r1 : Int)) :: st) g
  | .ldc2_w _ => dnxt nx lf ((2, w64 (r1 : Int)) :: st) g
  | .aconst_null => dnxt nx lf ((5, 0) :: st) g
  | .iload _ => dnxt nx lf (lf r1 :: st) g
  | .iload_n _ => dnxt nx lf (lf r1 :: st) g
  | .lload _ => dnxt nx lf (lf r1 :: st) g
  | .lload_n _ => dnxt nx lf (lf r1 :: st) g
  | .aload _ => dnxt nx lf (lf r1 :: st) g
  | .aload_n _ => dnxt nx lf (lf r1 :: st) g
  | .istore _ => d_sto nx r1 lf st g
  | .istore_n _ => d_sto nx r1 lf st g
  | .lstore _ => d_sto nx r1 lf st g
  | .lstore_n _ => d_sto nx r1 lf st g
  | .astore _ => d_sto nx r1 lf st g
  | .astore_n _ => d_sto nx r1 lf st g
  | .iinc _ _ => dnxt nx (dset lf r1 (0, w32 ((lf r1).2 + w32 (r2 : Int)))) st g
  | .iadd => d_adi (fun x z => x + z) nx lf st g
  | .isub => d_adi (fun x z => x - z) nx lf st g
  | .imul => d_adi (fun x z => x * z) nx lf st g
  | .idiv => d_bi (fun x z => x / z) nx lf st g
  | .irem => d_bi (fun x z => x - x / z * z) nx lf st g
  | .ineg => d_ui (fun x => -x) nx lf st g
  | .iand => d_bi (fun x z => x &&& z) nx lf st g
  | .ior => d_bi (fun x z => x ||| z) nx lf st g
  | .ishl => d_bi (fun x z => x <<< (z &&& 31)) nx lf st g
  | .ishr => d_bi (fun x z => x >>> (z &&& 31)) nx lf st g
  | .iushr => d_bi (fun x z => (x.toUInt32 >>> (z.toUInt32 &&& Int32.toUInt32 31)).toInt32) nx lf st g
  | .ladd => d_adl (fun x z => x + z) nx lf st g
  | .lsub => d_adl (fun x z => x - z) nx lf st g
  | .lmul => d_adl (fun x z => x * z) nx lf st g
  | .ldiv => d_bl (fun x z => x / z) nx lf st g
  | .lrem => d_bl (fun x z => x - x / z * z) nx lf st g
  | .land => d_bl (fun x z => x &&& z) nx lf st g
  | .lor => d_bl (fun x z => x ||| z) nx lf st g
  | .lshl => d_sl (fun x z => x <<< (z.toInt64 &&& 63)) nx lf st g
  | .lshr => d_sl (fun x z => x >>> (z.toInt64 &&& 63)) nx lf st g
  | .i2l => d_i2l nx lf st g
  | .l2i => d_l2i nx lf st g
  | .i2b => d_ui (fun x => x.toInt8.toInt32) nx lf st g
  | .i2s => d_ui (fun x => x.toInt16.toInt32) nx lf st g
  | .i2c => d_ui (fun x => (x.toUInt32 % 65536).toInt32) nx lf st g
  | .dup => d_dup nx lf st g
  | .pop => d_pop nx lf st g
  | .pop2 => d_pop nx lf st g
  | .dup2 => d_dup2 nx lf st g
  | .goto _ => dnxt tg lf st g
  | .if_icmp o _ => d_icmp o nx tg lf st g
  | .ifCond o _ => d_if o nx tg lf st g
  | .ifnull _ => d_nul nx tg true lf st g
  | .ifnonnull _ => d_nul nx tg false lf st g
  | .lcmp => d_lcmp nx lf st g
  | .tableswitch a b e f => d_tab a b e f pc lf st g
  | .lookupswitch a f => d_lkp a f pc lf st g
  | .getfield _ => d_get h0 nx r2 lf st g
  | .putfield _ => d_put nx r2 lf st g
  | .getstatic _ => cond (Nat.beq r1 0) (dnxt nx lf ((0, 1) :: st) g) (dnxt nx lf ((10, 0) :: st) g)
  | .arraylength => d_len h0 el nx lf st g
  | .iaload => d_ald h0 sv eb 13 nx lf st g
  | .laload => d_ald h0 sv eb 14 nx lf st g
  | .baload => d_ald h0 sv eb 15 nx lf st g
  | .aaload => d_ald h0 sv eb 20 nx lf st g
  | .iastore => d_ast 13 nx lf st g
  | .lastore => d_ast 14 nx lf st g
  | .bastore => d_ast 15 nx lf st g
  | .invokevirtual _ => d_call mi r1 true st
  | .invokestatic _ => cond (Nat.beq r2 8) (d_cpy nx lf st g) (d_call mi r1 false st)
  | .return_ => some (.inr (.inl none))
  | .ireturn => d_rv 0 st
  | .lreturn => d_rv 2 st
  | _ => none
/-- the locals that a call begins with -/
def darg : Nat → List cv → dlf
  | _, [], _ => (0, 0)
  | i, w :: l, j => cond (Nat.beq j i) w (darg (cond (Nat.beq (xkd w.1) 1) (i + 2) (i + 1)) l j)
theorem darg_ok : ∀ (i : Nat) (l : List cv), (∀ q ∈ carg i l, darg i l q.1 = q.2) ∧ ∀ q ∈ carg i l, i ≤ q.1
  | _, [] => ⟨fun _ h => absurd h List.not_mem_nil, fun _ h => absurd h List.not_mem_nil⟩
  | i, w :: l => by
    obtain ⟨h1, h2⟩ := darg_ok (cond (Nat.beq (xkd w.1) 1) (i + 2) (i + 1)) l
    have hi : i + 1 ≤ cond (Nat.beq (xkd w.1) 1) (i + 2) (i + 1) := by cases Nat.beq (xkd w.1) 1 <;> simp
    refine ⟨fun q hq => ?_, fun q hq => ?_⟩
    · rcases List.mem_cons.mp hq with e | hq
      · rw [e]
        show cond (Nat.beq i i) w _ = w
        rw [Nat.beq_refl]; rfl
      · have h3 := h2 q hq
        show cond (Nat.beq q.1 i) w _ = q.2
        have : Nat.beq q.1 i = false := by
          cases hb : Nat.beq q.1 i with
          | false => rfl
          | true => have := xeqb hb; omega
        rw [this]
        exact h1 q hq
    · rcases List.mem_cons.mp hq with e | hq
      · rw [e]; exact Nat.le_refl _
      · have := h2 q hq; omega
section DV
variable (cd : xcd) (h0 : xheap) (sv : Nat → Int32) (mi : xmi) (el : Nat → Nat) (eb : Nat → List Nat)
/-- what becomes of what one instruction does -/
def dcnt (rec : dF) (y nx r1 : Nat) (lf : dlf) (g : cg) : Option dO → Option (cg × Option cv)
  | none => none
  | some (.inl q) => rec y q.1 q.2.1 q.2.2.1 q.2.2.2
  | some (.inr (.inl rv)) => some (g, rv)
  | some (.inr (.inr q)) => match rec r1 0 (darg 0 q.1) [] g with
    | none => none
    | some o => rec y nx lf (cpsh o.2 q.2) o.1
noncomputable def dstep (rec : dF) : dF := fun y pc lf st g => match xg cd y with
  | none => none
  | some t => match xg t pc with
    | none => none
    | some e => dcnt rec y e.2.1 e.2.2.2.1 lf g (dnx h0 sv mi el eb e.1 e.2.1 e.2.2.1 e.2.2.2.1 e.2.2.2.2 pc lf st g)
noncomputable def dv (f : Nat) : dF := Nat.rec (motive := fun _ => dF) (fun _ _ _ _ _ => none) (fun _ r => dstep cd h0 sv mi el eb r) f
end DV
section DVM
variable {cd : xcd} {h0 : xheap} {sv : Nat → Int32} {mi : xmi} {el : Nat → Nat} {eb : Nat → List Nat}
theorem dcnt_mono {r r' : dF} (hr : ∀ y pc lf st g o, r y pc lf st g = some o → r' y pc lf st g = some o) {y nx r1 : Nat} {lf : dlf} {g : cg} : ∀ {w : Option dO} {o : cg × Option cv}, dcnt r y nx r1 lf g w = some o → dcnt r' y nx r1 lf g w = some o
  | none, _, h => by cases h
  | some (.inl _), _, h => hr _ _ _ _ _ _ h
  | some (.inr (.inl _)), _, h => h
  | some (.inr (.inr q)), o, h => by
    have h : (match r r1 0 (darg 0 q.1) [] g with
      | none => none
      | some o => r y nx lf (cpsh o.2 q.2) o.1) = some o := h
    show (match r' r1 0 (darg 0 q.1) [] g with
      | none => none
      | some o => r' y nx lf (cpsh o.2 q.2) o.1) = some o
    cases h1 : r r1 0 (darg 0 q.1) [] g with
    | none => rw [h1] at h; cases h
    | some o1 =>
      rw [h1] at h
      rw [hr _ _ _ _ _ _ h1]
      exact hr _ _ _ _ _ _ h
theorem dv_succ (f : Nat) : dv cd h0 sv mi el eb (f + 1) = dstep cd h0 sv mi el eb (dv cd h0 sv mi el eb f) := rfl
theorem dstep_mono {r r' : dF} (hr : ∀ y pc lf st g o, r y pc lf st g = some o → r' y pc lf st g = some o) {y pc : Nat} {lf : dlf} {st : List cv} {g : cg} {o : cg × Option cv} (h : dstep cd h0 sv mi el eb r y pc lf st g = some o) : dstep cd h0 sv mi el eb r' y pc lf st g = some o := by
  unfold dstep at h ⊢
  cases h1 : xg cd y with
  | none => rw [h1] at h; cases h
  | some t =>
    rw [h1] at h
    dsimp only at h ⊢
    cases h2 : xg t pc with
    | none => rw [h2] at h; cases h
    | some e =>
      rw [h2] at h
      exact dcnt_mono hr h
theorem dv_mono1 : ∀ (f : Nat) (y pc : Nat) (lf : dlf) (st : List cv) (g : cg) (o : cg × Option cv), dv cd h0 sv mi el eb f y pc lf st g = some o → dv cd h0 sv mi el eb (f + 1) y pc lf st g = some o
  | 0, _, _, _, _, _, _, h => by cases h
  | f + 1, y, pc, lf, st, g, o, h => by
    rw [dv_succ] at h ⊢
    exact dstep_mono (dv_mono1 f) h
theorem dv_mono {f f' : Nat} (hf : f ≤ f') {y pc : Nat} {lf : dlf} {st : List cv} {g : cg} {o : cg × Option cv} (h : dv cd h0 sv mi el eb f y pc lf st g = some o) : dv cd h0 sv mi el eb f' y pc lf st g = some o := by
  induction hf with
  | refl => exact h
  | step _ ih => exact dv_mono1 _ _ _ _ _ _ _ ih
theorem dv_fun {f f' : Nat} {y pc : Nat} {lf : dlf} {st : List cv} {g : cg} {o o' : cg × Option cv} (h : dv cd h0 sv mi el eb f y pc lf st g = some o) (h' : dv cd h0 sv mi el eb f' y pc lf st g = some o') : o = o' := by
  have h1 := dv_mono (Nat.le_max_left f f') h
  have h2 := dv_mono (Nat.le_max_right f f') h'
  exact Option.some.inj (h1.symm.trans h2)
theorem dv_at {y pc : Nat} {e : xins} (hc : cC cd y pc e) (f : Nat) (lf : dlf) (st : List cv) (g : cg) : dv cd h0 sv mi el eb (f + 1) y pc lf st g = dcnt (dv cd h0 sv mi el eb f) y e.2.1 e.2.2.2.1 lf g (dnx h0 sv mi el eb e.1 e.2.1 e.2.2.1 e.2.2.2.1 e.2.2.2.2 pc lf st g) := by
  obtain ⟨t, h1, h2⟩ := hc
  rw [dv_succ]
  unfold dstep
  rw [h1]
  dsimp only
  rw [h2]
end DVM
end
section
/-! What a run promises, and that it is the function's -/
abbrev xG : Type := xG0 × (xheap → Nat → dF)
def cW (sv : Nat → Int32) (cd : xcd) (mi : xmi) (df : xdf) (el : Nat → Nat) (eb : Nat → List Nat) (G : xG) : Prop := cV sv cd mi df el eb G.1 ∧ ∀ h0 : xheap, G.2 h0 = dv cd h0 sv mi el eb
def dag (lf : dlf) (ls : List (Nat × cv)) : Prop := ∀ q ∈ ls, lf q.1 = q.2
theorem dclk_mem : ∀ {ls : List (Nat × cv)} {i : Nat} {v : cv}, clk ls i = some v → (i, v) ∈ ls
  | [], _, _, h => by cases h
  | q :: l, i, v, h => by
    have h : cond (Nat.beq q.1 i) (some q.2) (clk l i) = some v := h
    cases hb : Nat.beq q.1 i with
    | true =>
      rw [hb] at h
      have e1 := xeqb hb
      have e2 : q.2 = v := Option.some.inj h
      rw [← e1, ← e2]
      exact List.mem_cons_self
    | false =>
      rw [hb] at h
      exact List.mem_cons_of_mem _ (dclk_mem h)
theorem dag_lk {lf : dlf} {ls : List (Nat × cv)} (h : dag lf ls) {i : Nat} {v : cv} (hv : clk ls i = some v) : lf i = v := h (i, v) (dclk_mem hv)
theorem dset_self (lf : dlf) (i : Nat) (v : cv) : dset lf i v i = v := by
  unfold dset
  rw [Nat.beq_refl]
  rfl
theorem dset_other (lf : dlf) {i j : Nat} (v : cv) (h : j ≠ i) : dset lf i v j = lf j := by
  unfold dset
  cases hb : Nat.beq j i with
  | false => rfl
  | true => exact absurd (xeqb hb) h
theorem dag_set {lf : dlf} {ls : List (Nat × cv)} (h : dag lf ls) {f : Nat → Nat × xv → Bool} {i : Nat} (hz : ∀ (i : Nat) (w : xv), f i (i, w) = false) (v : cv) : dag (dset lf i v) ((i, v) :: ls.filter (ckp f i)) := by
  intro q hq
  rcases List.mem_cons.mp hq with e | hq
  · rw [e]; exact dset_self lf i v
  · obtain ⟨h1, h2⟩ := List.mem_filter.mp hq
    have hne : q.1 ≠ i := by
      intro e
      have h3 : f i (q.1, (q.2.1, 0)) = true := h2
      rw [e, hz] at h3
      cases h3
    rw [dset_other lf v hne]
    exact h q h1
theorem xk1_z (i : Nat) (w : xv) : xk1 i (i, w) = false := by
  show (!(Nat.beq i i) && _) = false
  rw [Nat.beq_refl]; rfl
theorem xk2_z (i : Nat) (w : xv) : xk2 i (i, w) = false := by
  show (!(Nat.beq i i) && _) = false
  rw [Nat.beq_refl]; rfl
theorem dval_ok {h0 : xheap} {k j : Nat} {q : xcell} {w : xv} (g : cg) (hq : xg h0 k = some q) (hw : xg q.2.2 j = some w) : dval h0 g ((k : Int).toNat) j = cval w (g k j) := by
  show dval h0 g k j = _
  unfold dval
  rw [hq]
  dsimp only
  rw [hw]
section RunD
variable {sv : Nat → Int32} {cd : xcd} {mi : xmi} {df : xdf} {el : Nat → Nat} {eb : Nat → List Nat} {G : xG} {h0 : xheap} {n0 : Nat}
def cT (G : xG) (h0 : xheap) (n0 : Nat) (y d pc : Nat) (ls : List (Nat × cv)) (st : List cv) (g : cg) (cn sn : Nat) (Q : cg → Option cv → Prop) : Prop :=
  ∀ lf : dlf, dag lf ls → ∃ o : cg × Option cv, Q o.1 o.2 ∧ (∃ f, G.2 h0 f y pc lf st g = some o) ∧ cU G.1 h0 n0 y d pc ls st g cn sn (fun g' r => g' = o.1 ∧ r = o.2)
variable {y d pc pc' nx tg r1 r2 cn sn : Nat} {ins : Instr} {ls ls' : List (Nat × cv)} {st st' : List cv} {g g' : cg} {Q Q' : cg → Option cv → Prop}
theorem cT.mono (h : cT G h0 n0 y d pc ls st g cn sn Q) (hq : ∀ g r, Q g r → Q' g r) : cT G h0 n0 y d pc ls st g cn sn Q' := by
  intro lf hl
  obtain ⟨o, q, e, u⟩ := h lf hl
  exact ⟨o, hq _ _ q, e, u⟩
/-- one step -/
theorem cT_one (hG : cW sv cd mi df el eb G) (hc : cC cd y pc (ins, nx, tg, r1, r2)) (φ : dlf → dlf) (hd : ∀ lf, dag lf ls → dnx h0 sv mi el eb ins nx tg r1 r2 pc lf st g = some (.inl (pc', φ lf, st', g'))) (ha : ∀ lf, dag lf ls → dag (φ lf) ls')
    (old : ∀ Q' : cg → Option cv → Prop, cU G.1 h0 n0 y d pc' ls' st' g' cn sn Q' → cU G.1 h0 n0 y d pc ls st g cn sn Q') (k : cT G h0 n0 y d pc' ls' st' g' cn sn Q) : cT G h0 n0 y d pc ls st g cn sn Q := by
  intro lf hl
  obtain ⟨o, q, ⟨f, e⟩, u⟩ := k (φ lf) (ha lf hl)
  refine ⟨o, q, ⟨f + 1, ?_⟩, old _ u⟩
  rw [hG.2 h0] at e ⊢
  rw [dv_at hc]
  dsimp only
  rw [hd lf hl]
  exact e
theorem cT_push (hG : cW sv cd mi df el eb G) (hc : cC cd y pc (ins, nx, tg, r1, r2)) (he : ∀ (rec : xF) (lx : List (Nat × xv)) (sx : List xv) (h : xheap), xex mi df el eb rec ins nx tg r1 r2 y d pc lx sx [] h n0 cn sn = rec y d nx lx ((0, r1) :: sx) [] h n0 cn sn) (hdn : ∀ (lf : dlf) (sx : List cv) (g : cg), dnx h0 sv mi el eb ins nx tg r1 r2 pc lf sx g = dnxt nx lf ((0, (nI r1).toInt) :: sx) g)
    (k : cT G h0 n0 y d nx ls ((0, (nI r1).toInt) :: st) g cn sn Q) : cT G h0 n0 y d pc ls st g cn sn Q :=
  cT_one hG hc id (fun lf _ => hdn lf _ _) (fun _ h => h) (fun _ u => cU_push hG.1 hc he u) k
theorem cT_pushL (hG : cW sv cd mi df el eb G) (hc : cC cd y pc (ins, nx, tg, r1, r2)) (he : ∀ (rec : xF) (lx : List (Nat × xv)) (sx : List xv) (h : xheap), xex mi df el eb rec ins nx tg r1 r2 y d pc lx sx [] h n0 cn sn = rec y d nx lx ((2, r1) :: sx) [] h n0 cn sn) (hdn : ∀ (lf : dlf) (sx : List cv) (g : cg), dnx h0 sv mi el eb ins nx tg r1 r2 pc lf sx g = dnxt nx lf ((2, (lN r1).toInt) :: sx) g)
    (k : cT G h0 n0 y d nx ls ((2, (lN r1).toInt) :: st) g cn sn Q) : cT G h0 n0 y d pc ls st g cn sn Q :=
  cT_one hG hc id (fun lf _ => hdn lf _ _) (fun _ h => h) (fun _ u => cU_pushL hG.1 hc he u) k
theorem cT_pushV (hG : cW sv cd mi df el eb G) (hc : cC cd y pc (ins, nx, tg, r1, r2)) {v : cv} (he : ∀ (rec : xF) (lx : List (Nat × xv)) (sx : List xv) (h : xheap), xex mi df el eb rec ins nx tg r1 r2 y d pc lx sx [] h n0 cn sn = rec y d nx lx (cenc v :: sx) [] h n0 cn sn) (hdn : ∀ (lf : dlf) (sx : List cv) (g : cg), dnx h0 sv mi el eb ins nx tg r1 r2 pc lf sx g = dnxt nx lf (v :: sx) g)
    (k : cT G h0 n0 y d nx ls (v :: st) g cn sn Q) : cT G h0 n0 y d pc ls st g cn sn Q :=
  cT_one hG hc id (fun lf _ => hdn lf _ _) (fun _ h => h) (fun _ u => cU_pushV hG.1 hc he u) k
theorem cT_ld (hG : cW sv cd mi df el eb G) (hc : cC cd y pc (ins, nx, tg, r1, r2)) {k1 k2 : Nat} {v : cv} (he : ∀ (rec : xF) (lx : List (Nat × xv)) (sx : List xv) (h : xheap), xex mi df el eb rec ins nx tg r1 r2 y d pc lx sx [] h n0 cn sn = x_ld rec nx r1 y d lx sx [] h n0 cn sn k1 k2) (hdn : ∀ (lf : dlf) (sx : List cv) (g : cg), dnx h0 sv mi el eb ins nx tg r1 r2 pc lf sx g = dnxt nx lf (lf r1 :: sx) g)
    (hv : clk ls r1 = some v) (hk : xkd v.1 = k1 ∨ xkd v.1 = k2) (k : cT G h0 n0 y d nx ls (v :: st) g cn sn Q) : cT G h0 n0 y d pc ls st g cn sn Q :=
  cT_one hG hc id (fun lf hl => by rw [hdn lf, dag_lk hl hv]; rfl) (fun _ h => h) (fun _ u => cU_ld hG.1 hc he hv hk u) k
theorem cT_sto (hG : cW sv cd mi df el eb G) (hc : cC cd y pc (ins, nx, tg, r1, r2)) {k1 k2 : Nat} {f : Nat → Nat × xv → Bool} {v : cv} (hf : ∀ (i j : Nat) (w : xv), f i (j, w) = f i (j, (w.1, 0))) (hfz : ∀ (i : Nat) (w : xv), f i (i, w) = false) (he : ∀ (rec : xF) (lx : List (Nat × xv)) (sx : List xv) (h : xheap), xex mi df el eb rec ins nx tg r1 r2 y d pc lx sx [] h n0 cn sn = x_st rec nx r1 y d lx sx [] h n0 cn sn k1 k2 f) (hdn : ∀ (lf : dlf) (sx : List cv) (g : cg), dnx h0 sv mi el eb ins nx tg r1 r2 pc lf sx g = d_sto nx r1 lf sx g)
    (hk : xkd v.1 = k1 ∨ xkd v.1 = k2) (k : cT G h0 n0 y d nx ((r1, v) :: ls.filter (ckp f r1)) st g cn sn Q) : cT G h0 n0 y d pc ls (v :: st) g cn sn Q :=
  cT_one hG hc (fun lf => dset lf r1 v) (fun lf _ => hdn lf _ _) (fun _ h => dag_set h hfz v) (fun _ u => cU_sto hG.1 hc hf he hk u) k
theorem cT_inc (hG : cW sv cd mi df el eb G) {i : Nat} {z : Int} (hc : cC cd y pc (.iinc i z, nx, tg, r1, r2)) {a : Int} (hv : clk ls r1 = some (0, a))
    (k : cT G h0 n0 y d nx ((r1, (0, (i32 a + nI r2).toInt)) :: ls.filter (ckp xk1 r1)) st g cn sn Q) : cT G h0 n0 y d pc ls st g cn sn Q :=
  cT_one hG hc (fun lf => dset lf r1 (0, (i32 a + nI r2).toInt)) (fun lf hl => by
    show dnxt nx (dset lf r1 (0, w32 ((lf r1).2 + w32 (r2 : Int)))) st g = _
    have e : w32 (a + w32 (r2 : Int)) = (i32 a + nI r2).toInt := by
      have e2 : nI r2 = i32 (nI r2).toInt := (i32_of (nI r2)).symm
      rw [e2, i32_add, i32_w, nI_w]
    rw [dag_lk hl hv]
    show dnxt nx (dset lf r1 (0, w32 (a + w32 (r2 : Int)))) st g = _
    rw [e]; rfl) (fun _ h => dag_set h xk1_z _) (fun _ u => cU_inc hG.1 hc hv u) k
theorem cT_bi (hG : cW sv cd mi df el eb G) (hc : cC cd y pc (ins, nx, tg, r1, r2)) {f : Nat → Nat → Nat} {F : Int32 → Int32 → Int32} {a b : Int} (he : ∀ (rec : xF) (lx : List (Nat × xv)) (sx : List xv) (h : xheap), xex mi df el eb rec ins nx tg r1 r2 y d pc lx sx [] h n0 cn sn = x_bi rec nx y d lx sx [] h n0 cn sn f) (hdn : ∀ (lf : dlf) (sx : List cv) (g : cg), dnx h0 sv mi el eb ins nx tg r1 r2 pc lf sx g = d_bi F nx lf sx g) (hF : ∀ a b, nI (f a b) = F (nI a) (nI b))
    (k : cT G h0 n0 y d nx ls ((0, (F (i32 a) (i32 b)).toInt) :: st) g cn sn Q) : cT G h0 n0 y d pc ls ((0, b) :: (0, a) :: st) g cn sn Q :=
  cT_one hG hc id (fun lf _ => hdn lf _ _) (fun _ h => h) (fun _ u => cU_bi hG.1 hc he hF u) k
theorem cT_dv (hG : cW sv cd mi df el eb G) (hc : cC cd y pc (ins, nx, tg, r1, r2)) {f : Nat → Nat → Nat} {F : Int32 → Int32 → Int32} {a b : Int} (he : ∀ (rec : xF) (lx : List (Nat × xv)) (sx : List xv) (h : xheap), xex mi df el eb rec ins nx tg r1 r2 y d pc lx sx [] h n0 cn sn = x_dv rec nx y d lx sx [] h n0 cn sn f) (hdn : ∀ (lf : dlf) (sx : List cv) (g : cg), dnx h0 sv mi el eb ins nx tg r1 r2 pc lf sx g = d_bi F nx lf sx g) (hF : ∀ a b, nI (f a b) = F (nI a) (nI b)) (hb : cI b) (hz : b ≠ 0)
    (k : cT G h0 n0 y d nx ls ((0, (F (i32 a) (i32 b)).toInt) :: st) g cn sn Q) : cT G h0 n0 y d pc ls ((0, b) :: (0, a) :: st) g cn sn Q :=
  cT_one hG hc id (fun lf _ => hdn lf _ _) (fun _ h => h) (fun _ u => cU_dv hG.1 hc he hF hb hz u) k
theorem cT_bl (hG : cW sv cd mi df el eb G) (hc : cC cd y pc (ins, nx, tg, r1, r2)) {f : Nat → Nat → Nat} {F : Int64 → Int64 → Int64} {a b : Int} (he : ∀ (rec : xF) (lx : List (Nat × xv)) (sx : List xv) (h : xheap), xex mi df el eb rec ins nx tg r1 r2 y d pc lx sx [] h n0 cn sn = x_bl rec nx y d lx sx [] h n0 cn sn f) (hdn : ∀ (lf : dlf) (sx : List cv) (g : cg), dnx h0 sv mi el eb ins nx tg r1 r2 pc lf sx g = d_bl F nx lf sx g) (hF : ∀ a b, lN (f a b) = F (lN a) (lN b))
    (k : cT G h0 n0 y d nx ls ((2, (F (i64 a) (i64 b)).toInt) :: st) g cn sn Q) : cT G h0 n0 y d pc ls ((2, b) :: (2, a) :: st) g cn sn Q :=
  cT_one hG hc id (fun lf _ => hdn lf _ _) (fun _ h => h) (fun _ u => cU_bl hG.1 hc he hF u) k
theorem cT_dl (hG : cW sv cd mi df el eb G) (hc : cC cd y pc (ins, nx, tg, r1, r2)) {f : Nat → Nat → Nat} {F : Int64 → Int64 → Int64} {a b : Int} (he : ∀ (rec : xF) (lx : List (Nat × xv)) (sx : List xv) (h : xheap), xex mi df el eb rec ins nx tg r1 r2 y d pc lx sx [] h n0 cn sn = x_dl rec nx y d lx sx [] h n0 cn sn f) (hdn : ∀ (lf : dlf) (sx : List cv) (g : cg), dnx h0 sv mi el eb ins nx tg r1 r2 pc lf sx g = d_bl F nx lf sx g) (hF : ∀ a b, lN (f a b) = F (lN a) (lN b)) (hb : cL b) (hz : b ≠ 0)
    (k : cT G h0 n0 y d nx ls ((2, (F (i64 a) (i64 b)).toInt) :: st) g cn sn Q) : cT G h0 n0 y d pc ls ((2, b) :: (2, a) :: st) g cn sn Q :=
  cT_one hG hc id (fun lf _ => hdn lf _ _) (fun _ h => h) (fun _ u => cU_dl hG.1 hc he hF hb hz u) k
theorem cT_sl (hG : cW sv cd mi df el eb G) (hc : cC cd y pc (ins, nx, tg, r1, r2)) {f : Nat → Nat → Nat} {F : Int64 → Int32 → Int64} {a b : Int} (he : ∀ (rec : xF) (lx : List (Nat × xv)) (sx : List xv) (h : xheap), xex mi df el eb rec ins nx tg r1 r2 y d pc lx sx [] h n0 cn sn = x_sl rec nx y d lx sx [] h n0 cn sn f) (hdn : ∀ (lf : dlf) (sx : List cv) (g : cg), dnx h0 sv mi el eb ins nx tg r1 r2 pc lf sx g = d_sl F nx lf sx g) (hF : ∀ a b, lN (f a b) = F (lN a) (nI b))
    (k : cT G h0 n0 y d nx ls ((2, (F (i64 a) (i32 b)).toInt) :: st) g cn sn Q) : cT G h0 n0 y d pc ls ((0, b) :: (2, a) :: st) g cn sn Q :=
  cT_one hG hc id (fun lf _ => hdn lf _ _) (fun _ h => h) (fun _ u => cU_sl hG.1 hc he hF u) k
theorem cT_ui (hG : cW sv cd mi df el eb G) (hc : cC cd y pc (ins, nx, tg, r1, r2)) {f : Nat → Nat} {F : Int32 → Int32} {a : Int} (he : ∀ (rec : xF) (lx : List (Nat × xv)) (sx : List xv) (h : xheap), xex mi df el eb rec ins nx tg r1 r2 y d pc lx sx [] h n0 cn sn = x_ui rec nx y d lx sx [] h n0 cn sn f) (hdn : ∀ (lf : dlf) (sx : List cv) (g : cg), dnx h0 sv mi el eb ins nx tg r1 r2 pc lf sx g = d_ui F nx lf sx g) (hF : ∀ a, nI (f a) = F (nI a))
    (k : cT G h0 n0 y d nx ls ((0, (F (i32 a)).toInt) :: st) g cn sn Q) : cT G h0 n0 y d pc ls ((0, a) :: st) g cn sn Q :=
  cT_one hG hc id (fun lf _ => hdn lf _ _) (fun _ h => h) (fun _ u => cU_ui hG.1 hc he hF u) k
theorem cT_i2l (hG : cW sv cd mi df el eb G) (hc : cC cd y pc (.i2l, nx, tg, r1, r2)) {a : Int} (ha : cI a)
    (k : cT G h0 n0 y d nx ls ((2, a) :: st) g cn sn Q) : cT G h0 n0 y d pc ls ((0, a) :: st) g cn sn Q :=
  cT_one hG hc id (fun _ _ => rfl) (fun _ h => h) (fun _ u => cU_i2l hG.1 hc ha u) k
theorem cT_l2i (hG : cW sv cd mi df el eb G) (hc : cC cd y pc (.l2i, nx, tg, r1, r2)) {a : Int}
    (k : cT G h0 n0 y d nx ls ((0, (i64 a).toInt32.toInt) :: st) g cn sn Q) : cT G h0 n0 y d pc ls ((2, a) :: st) g cn sn Q :=
  cT_one hG hc id (fun _ _ => rfl) (fun _ h => h) (fun _ u => cU_l2i hG.1 hc u) k
theorem cT_dup (hG : cW sv cd mi df el eb G) (hc : cC cd y pc (.dup, nx, tg, r1, r2)) {v : cv} (hv : Nat.beq (xkd v.1) 1 = false)
    (k : cT G h0 n0 y d nx ls (v :: v :: st) g cn sn Q) : cT G h0 n0 y d pc ls (v :: st) g cn sn Q :=
  cT_one hG hc id (fun _ _ => rfl) (fun _ h => h) (fun _ u => cU_dup hG.1 hc hv u) k
theorem cT_pop (hG : cW sv cd mi df el eb G) (hc : cC cd y pc (.pop, nx, tg, r1, r2)) {v : cv} (hv : Nat.beq (xkd v.1) 1 = false)
    (k : cT G h0 n0 y d nx ls st g cn sn Q) : cT G h0 n0 y d pc ls (v :: st) g cn sn Q :=
  cT_one hG hc id (fun _ _ => rfl) (fun _ h => h) (fun _ u => cU_pop hG.1 hc hv u) k
theorem cT_pop2 (hG : cW sv cd mi df el eb G) (hc : cC cd y pc (.pop2, nx, tg, r1, r2)) {v : cv} (hv : Nat.beq (xkd v.1) 1 = true)
    (k : cT G h0 n0 y d nx ls st g cn sn Q) : cT G h0 n0 y d pc ls (v :: st) g cn sn Q :=
  cT_one hG hc id (fun _ _ => rfl) (fun _ h => h) (fun _ u => cU_pop2 hG.1 hc hv u) k
theorem cT_dup2L (hG : cW sv cd mi df el eb G) (hc : cC cd y pc (.dup2, nx, tg, r1, r2)) {v : cv} (hv : Nat.beq (xkd v.1) 1 = true)
    (k : cT G h0 n0 y d nx ls (v :: v :: st) g cn sn Q) : cT G h0 n0 y d pc ls (v :: st) g cn sn Q :=
  cT_one hG hc id (fun lf _ => by
    show cond (Nat.beq (xkd v.1) 1) _ _ = _
    rw [hv]; rfl) (fun _ h => h) (fun _ u => cU_dup2L hG.1 hc hv u) k
theorem cT_dup2 (hG : cW sv cd mi df el eb G) (hc : cC cd y pc (.dup2, nx, tg, r1, r2)) {v w : cv} (hv : Nat.beq (xkd v.1) 1 = false) (hw : Nat.beq (xkd w.1) 1 = false)
    (k : cT G h0 n0 y d nx ls (v :: w :: v :: w :: st) g cn sn Q) : cT G h0 n0 y d pc ls (v :: w :: st) g cn sn Q :=
  cT_one hG hc id (fun lf _ => by
    show cond (Nat.beq (xkd v.1) 1) _ _ = _
    rw [hv]; rfl) (fun _ h => h) (fun _ u => cU_dup2 hG.1 hc hv hw u) k
theorem cT_goto (hG : cW sv cd mi df el eb G) {o : Int} (hc : cC cd y pc (.goto o, nx, tg, r1, r2)) (k : cT G h0 n0 y d tg ls st g cn sn Q) : cT G h0 n0 y d pc ls st g cn sn Q :=
  cT_one hG hc id (fun _ _ => rfl) (fun _ h => h) (fun _ u => cU_goto hG.1 hc u) k
theorem cT_icmp (hG : cW sv cd mi df el eb G) {o : Jvm.ClassFile.Cond} {z : Int} (hc : cC cd y pc (.if_icmp o z, nx, tg, r1, r2)) {a b : Int} (ha : cI a) (hb : cI b)
    (k : cT G h0 n0 y d (cond (crel o a b) tg nx) ls st g cn sn Q) : cT G h0 n0 y d pc ls ((0, b) :: (0, a) :: st) g cn sn Q :=
  cT_one hG hc id (fun _ _ => rfl) (fun _ h => h) (fun _ u => cU_icmp hG.1 hc ha hb u) k
theorem cT_if (hG : cW sv cd mi df el eb G) {o : Jvm.ClassFile.Cond} {z : Int} (hc : cC cd y pc (.ifCond o z, nx, tg, r1, r2)) {a : Int} (ha : cI a)
    (k : cT G h0 n0 y d (cond (crel o a 0) tg nx) ls st g cn sn Q) : cT G h0 n0 y d pc ls ((0, a) :: st) g cn sn Q :=
  cT_one hG hc id (fun _ _ => rfl) (fun _ h => h) (fun _ u => cU_if hG.1 hc ha u) k
theorem cT_nul (hG : cW sv cd mi df el eb G) (hc : cC cd y pc (ins, nx, tg, r1, r2)) {t : Bool} (he : ∀ (rec : xF) (lx : List (Nat × xv)) (sx : List xv) (h : xheap), xex mi df el eb rec ins nx tg r1 r2 y d pc lx sx [] h n0 cn sn = x_nul rec nx tg y d lx sx [] h n0 cn sn t) (hdn : ∀ (lf : dlf) (sx : List cv) (g : cg), dnx h0 sv mi el eb ins nx tg r1 r2 pc lf sx g = d_nul nx tg t lf sx g) {v : cv}
    (hv : (xkd v.1 = 2 ∧ pc' = cond t nx tg) ∨ (xkd v.1 = 3 ∧ pc' = cond t tg nx)) (k : cT G h0 n0 y d pc' ls st g cn sn Q) : cT G h0 n0 y d pc ls (v :: st) g cn sn Q :=
  cT_one hG hc id (fun lf _ => by
    rw [hdn lf]
    show dnxt (cond (Nat.beq (xkd v.1) 2) (cond t nx tg) (cond t tg nx)) lf st g = _
    rcases hv with ⟨e1, e2⟩ | ⟨e1, e2⟩ <;> rw [e1, e2] <;> rfl) (fun _ h => h) (fun _ u => cU_nul hG.1 hc he hv u) k
theorem cT_lcmp (hG : cW sv cd mi df el eb G) (hc : cC cd y pc (.lcmp, nx, tg, r1, r2)) {a b : Int} (ha : cL a) (hb : cL b)
    (k : cT G h0 n0 y d nx ls ((0, csgn (a - b)) :: st) g cn sn Q) : cT G h0 n0 y d pc ls ((2, b) :: (2, a) :: st) g cn sn Q :=
  cT_one hG hc id (fun _ _ => rfl) (fun _ h => h) (fun _ u => cU_lcmp hG.1 hc ha hb u) k
theorem cT_tab (hG : cW sv cd mi df el eb G) {a b e : Int} {f : Array Int} (hc : cC cd y pc (.tableswitch a b e f, nx, tg, r1, r2)) {z : Int} (hz : cI z) {t : Nat} (ht : xts a b e f pc z = some t)
    (k : cT G h0 n0 y d t ls st g cn sn Q) : cT G h0 n0 y d pc ls ((0, z) :: st) g cn sn Q :=
  cT_one hG hc id (fun lf _ => by
    show (match xts a b e f pc z with
      | none => none
      | some t => dnxt t lf st g) = _
    rw [ht]; rfl) (fun _ h => h) (fun _ u => cU_tab hG.1 hc hz ht u) k
theorem cT_lkp (hG : cW sv cd mi df el eb G) {a : Int} {f : Array (Int × Int)} (hc : cC cd y pc (.lookupswitch a f, nx, tg, r1, r2)) {z : Int} (hz : cI z) (ht : 0 ≤ (pc : Int) + Op.lookupswitch.offset f.toList a z)
    (k : cT G h0 n0 y d ((pc : Int) + Op.lookupswitch.offset f.toList a z).toNat ls st g cn sn Q) : cT G h0 n0 y d pc ls ((0, z) :: st) g cn sn Q :=
  cT_one hG hc id (fun _ _ => rfl) (fun _ h => h) (fun _ u => cU_lkp hG.1 hc hz ht u) k
theorem cT_get (hG : cW sv cd mi df el eb G) {i : Nat} (hc : cC cd y pc (.getfield i, nx, tg, r1, r2)) {k : Nat} {q : xcell} {w : xv} (hq : xg h0 k = some q) (hk : q.1 = r1) (h13 : r1 < 13) (hw : xg q.2.2 r2 = some w)
    (kk : cT G h0 n0 y d nx ls (cval w (g k r2) :: st) g cn sn Q) : cT G h0 n0 y d pc ls ((4, (k : Int)) :: st) g cn sn Q :=
  cT_one hG hc id (fun lf _ => by
    show dnxt nx lf (dval h0 g ((k : Int).toNat) r2 :: st) g = _
    rw [dval_ok g hq hw]; rfl) (fun _ h => h) (fun _ u => cU_get hG.1 hc hq hk h13 hw u) kk
theorem cT_getE (hG : cW sv cd mi df el eb G) {i : Nat} (hc : cC cd y pc (.getfield i, nx, tg, r1, r2)) {k : Nat} (hk : k = 1 ∨ k = 3) (h98 : r1 = 98)
    (kk : cT G h0 n0 y d nx ls ((cond (Nat.beq r2 0) (6, ((k + 1 : Nat) : Int)) (0, 0)) :: st) g cn sn Q) : cT G h0 n0 y d pc ls ((6, (k : Int)) :: st) g cn sn Q :=
  cT_one hG hc id (fun _ _ => rfl) (fun _ h => h) (fun _ u => cU_getE hG.1 hc hk h98 u) kk
theorem cT_put (hG : cW sv cd mi df el eb G) {i : Nat} (hc : cC cd y pc (.putfield i, nx, tg, r1, r2)) {k : Nat} {q : xcell} {w : xv} {v : cv} (hq : xg h0 k = some q) (hk : q.1 = r1) (hl : r2 < q.2.1) (hw : xg q.2.2 r2 = some w) (hv : cenc v = cpl w v.2) (hf : xfit tg (cenc v) = true)
    (kk : cT G h0 n0 y d nx ls st (cup g k r2 v.2) cn sn Q) : cT G h0 n0 y d pc ls (v :: (4, (k : Int)) :: st) g cn sn Q :=
  cT_one hG hc id (fun _ _ => rfl) (fun _ h => h) (fun _ u => cU_put hG.1 hc hq hk hl hw hv hf u) kk
theorem cT_len (hG : cW sv cd mi df el eb G) (hc : cC cd y pc (.arraylength, nx, tg, r1, r2)) {k : Nat} {q : xcell} (hq : xg h0 k = some q) (h13 : 13 ≤ q.1) (hl : q.2.1 < 2147483648)
    (kk : cT G h0 n0 y d nx ls ((0, (q.2.1 : Int)) :: st) g cn sn Q) : cT G h0 n0 y d pc ls ((4, (k : Int)) :: st) g cn sn Q :=
  cT_one hG hc id (fun lf _ => by
    show dnxt nx lf ((0, (dln h0 k : Int)) :: st) g = _
    unfold dln
    rw [hq]; rfl) (fun _ h => h) (fun _ u => cU_len hG.1 hc hq h13 hl u) kk
theorem cT_lenE (hG : cW sv cd mi df el eb G) (hc : cC cd y pc (.arraylength, nx, tg, r1, r2)) {k : Nat} (hk : k = 0 ∨ k = 2 ∨ k = 4) (hl : el k < 2147483648)
    (kk : cT G h0 n0 y d nx ls ((0, (el k : Int)) :: st) g cn sn Q) : cT G h0 n0 y d pc ls ((6, (k : Int)) :: st) g cn sn Q :=
  cT_one hG hc id (fun _ _ => rfl) (fun _ h => h) (fun _ u => cU_lenE hG.1 hc hk hl u) kk
theorem cT_ald (hG : cW sv cd mi df el eb G) (hc : cC cd y pc (ins, nx, tg, r1, r2)) {kd : Nat} (he : ∀ (rec : xF) (lx : List (Nat × xv)) (sx : List xv) (h : xheap), xex mi df el eb rec ins nx tg r1 r2 y d pc lx sx [] h n0 cn sn = x_ald el eb rec nx y d pc lx sx [] h n0 cn sn kd) (hdn : ∀ (lf : dlf) (sx : List cv) (g : cg), dnx h0 sv mi el eb ins nx tg r1 r2 pc lf sx g = d_ald h0 sv eb kd nx lf sx g)
    {k i : Nat} {q : xcell} {w : xv} (hq : xg h0 k = some q) (hk : q.1 = kd ∨ (kd = 20 ∧ 20 ≤ q.1)) (hl : i < q.2.1) (h31 : i < 2147483648) (hw : xg q.2.2 i = some w)
    (kk : cT G h0 n0 y d nx ls (cval w (g k i) :: st) g cn sn Q) : cT G h0 n0 y d pc ls ((0, (i : Int)) :: (4, (k : Int)) :: st) g cn sn Q :=
  cT_one hG hc id (fun lf _ => by
    rw [hdn lf]
    show dnxt nx lf (dval h0 g ((k : Int).toNat) i :: st) g = _
    rw [dval_ok g hq hw]; rfl) (fun _ h => h) (fun _ u => cU_ald hG.1 hc he hq hk hl h31 hw u) kk
theorem cT_aldS (hG : cW sv cd mi df el eb G) (hc : cC cd y pc (.iaload, nx, tg, r1, r2)) {i : Nat} (hl : i < el 0) (h31 : i < 2147483648)
    (kk : cT G h0 n0 y d nx ls ((0, (sv i).toInt) :: st) g cn sn Q) : cT G h0 n0 y d pc ls ((0, (i : Int)) :: (6, 0) :: st) g cn sn Q :=
  cT_one hG hc id (fun _ _ => rfl) (fun _ h => h) (fun _ u => cU_aldS hG.1 hc hl h31 u) kk
theorem cT_aldT (hG : cW sv cd mi df el eb G) (hc : cC cd y pc (.baload, nx, tg, r1, r2)) {i k : Nat} (hk : k = 2 ∨ k = 4) (hl : i < el k) (h31 : i < 2147483648)
    (kk : cT G h0 n0 y d nx ls ((0, (nI ((eb k).getD i 0)).toInt) :: st) g cn sn Q) : cT G h0 n0 y d pc ls ((0, (i : Int)) :: (6, (k : Int)) :: st) g cn sn Q :=
  cT_one hG hc id (fun _ _ => rfl) (fun _ h => h) (fun _ u => cU_aldT hG.1 hc hk hl h31 u) kk
theorem cT_ast (hG : cW sv cd mi df el eb G) (hc : cC cd y pc (ins, nx, tg, r1, r2)) {kd : Nat} (he : ∀ (rec : xF) (lx : List (Nat × xv)) (sx : List xv) (h : xheap), xex mi df el eb rec ins nx tg r1 r2 y d pc lx sx [] h n0 cn sn = x_ast rec nx y d pc lx sx [] h n0 cn sn kd) (hdn : ∀ (lf : dlf) (sx : List cv) (g : cg), dnx h0 sv mi el eb ins nx tg r1 r2 pc lf sx g = d_ast kd nx lf sx g)
    {k i : Nat} {q : xcell} {w : xv} {v : cv} (hq : xg h0 k = some q) (hk : q.1 = kd) (hl : i < q.2.1) (h31 : i < 2147483648) (hw : xg q.2.2 i = some w) (hv : (kd = 14 ∧ v.1 = 2 ∧ w.1 = 2) ∨ ((kd = 13 ∨ kd = 15) ∧ v.1 = 0 ∧ w.1 = 0))
    (kk : cT G h0 n0 y d nx ls st (cup g k i (cstv kd v).2) cn sn Q) : cT G h0 n0 y d pc ls (v :: (0, (i : Int)) :: (4, (k : Int)) :: st) g cn sn Q :=
  cT_one hG hc id (fun lf _ => hdn lf _ _) (fun _ h => h) (fun _ u => cU_ast hG.1 hc he hq hk hl h31 hw hv u) kk
theorem cT_cpy (hG : cW sv cd mi df el eb G) (h00 : cH0 h0) {i : Nat} (hc : cC cd y (pc) (.invokestatic i, nx, tg, r1, r2)) (h8 : r2 = 8) {ka kb sp dp m : Nat} {qa qb : xcell} (hqa : xg h0 ka = some qa) (hqb : xg h0 kb = some qb) (hk : qa.1 = 13 ∨ qa.1 = 14) (hk2 : qb.1 = qa.1) (hs : sp + m ≤ qa.2.1) (hd : dp + m ≤ qb.2.1) (hw : cwds st ≤ 8) (hdp : 1 ≤ d)
    (kk : cT G h0 n0 y d nx ls st (ccp g ka kb sp dp m) cn sn Q) : cT G h0 n0 y d pc ls ((0, (m : Int)) :: (0, (dp : Int)) :: (4, (kb : Int)) :: (0, (sp : Int)) :: (4, (ka : Int)) :: st) g cn sn Q :=
  cT_one hG hc id (fun lf _ => by
    show cond (Nat.beq r2 8) _ _ = _
    rw [h8]; rfl) (fun _ h => h) (fun _ u => cU_cpy hG.1 h00 hc h8 hqa hqb hk hk2 hs hd hw hdp u) kk
theorem cT_call (hG : cW sv cd mi df el eb G) (hc : cC cd y pc (ins, nx, tg, r1, r2)) {inst virt : Bool} {d' : Nat} (he : ∀ (rec : xF) (lx : List (Nat × xv)) (sx : List xv) (h : xheap), xex mi df el eb rec ins nx tg r1 r2 y (d' + 1) pc lx sx [] h n0 cn sn = x_call mi rec nx r1 y (d' + 1) lx sx [] h n0 cn sn inst virt) (hdn : ∀ (lf : dlf) (sx : List cv) (g : cg), dnx h0 sv mi el eb ins nx tg r1 r2 pc lf sx g = d_call mi r1 inst sx)
    {q u : Nat × Nat × Nat × Nat × Nat × Nat} {args rest : List cv} (hq : xg mi y = some q) (hu : xg mi r1 = some u) (hp : cpop (cond inst (u.2.2.1 + 1) u.2.2.1) [] st = some (args, rest)) (hr : crcv h0 inst virt u.2.2.2.1 args)
    (hw : cwds rest ≤ 8) (ha : cwds args ≤ u.2.2.2.2.2) (hu1 : u.1 = 0) (hu2 : u.2.1 = 0) (hcn : cn ≤ q.1) (hsn : sn ≤ q.2.1) (hinst : args = [] → inst = false) {Q1 : cg → Option cv → Prop}
    (k1 : cT G h0 n0 r1 d' 0 (carg 0 args) [] g 0 0 Q1) (k2 : ∀ (g1 : cg) (rv : Option cv), Q1 g1 rv → cT G h0 n0 y (d' + 1) nx ls (cpsh rv rest) g1 cn sn Q) : cT G h0 n0 y (d' + 1) pc ls st g cn sn Q := by
  intro lf hl
  obtain ⟨o1, q1, ⟨f1, e1⟩, u1⟩ := k1 (darg 0 args) (darg_ok 0 args).1
  obtain ⟨o2, q2, ⟨f2, e2⟩, u2⟩ := k2 o1.1 o1.2 q1 lf hl
  refine ⟨o2, q2, ⟨max f1 f2 + 1, ?_⟩, cU_call (Q1 := fun g' r => g' = o1.1 ∧ r = o1.2) hG.1 hc he hq hu hp hr hw ha hu1 hu2 hcn hsn hinst u1 (fun g1 rv hq => ?_)⟩
  · rw [hG.2 h0] at e1 e2 ⊢
    rw [dv_at hc]
    dsimp only
    rw [hdn lf]
    have ec : d_call mi r1 inst st = some (.inr (.inr (args, rest))) := by
      unfold d_call
      rw [hu]
      dsimp only
      rw [hp]
    rw [ec]
    show (match dv cd h0 sv mi el eb (max f1 f2) r1 0 (darg 0 args) [] g with
      | none => none
      | some o => dv cd h0 sv mi el eb (max f1 f2) y nx lf (cpsh o.2 rest) o.1) = some o2
    rw [dv_mono (Nat.le_max_left f1 f2) e1]
    exact dv_mono (Nat.le_max_right f1 f2) e2
  · obtain ⟨a, b⟩ := hq
    rw [a, b]
    exact u2
theorem cT_ret (hG : cW sv cd mi df el eb G) (hc : cC cd y pc (.return_, nx, tg, r1, r2)) {q : Nat × Nat × Nat × Nat × Nat × Nat} (hq : xg mi y = some q) (h0' : q.2.2.2.2.1 = 0) (k : Q g none) : cT G h0 n0 y d pc ls [] g cn sn Q :=
  fun lf _ => ⟨(g, none), k, ⟨1, by rw [hG.2 h0, dv_at hc]; rfl⟩, cU_ret hG.1 hc hq h0' ⟨rfl, rfl⟩⟩
theorem cT_iret (hG : cW sv cd mi df el eb G) (hc : cC cd y pc (.ireturn, nx, tg, r1, r2)) {q : Nat × Nat × Nat × Nat × Nat × Nat} {v : cv} (hq : xg mi y = some q) (hv : v.1 = 0) (hr : xrok q.2.2.2.2.1 (cenc v) = true) (k : Q g (some v)) : cT G h0 n0 y d pc ls [v] g cn sn Q := by
  obtain ⟨t, z⟩ := v
  have hv : t = 0 := hv
  subst hv
  exact fun lf _ => ⟨(g, some (0, z)), k, ⟨1, by rw [hG.2 h0, dv_at hc]; rfl⟩, cU_iret hG.1 hc hq hr ⟨rfl, rfl⟩⟩
theorem cT_lret (hG : cW sv cd mi df el eb G) (hc : cC cd y pc (.lreturn, nx, tg, r1, r2)) {q : Nat × Nat × Nat × Nat × Nat × Nat} {v : cv} (hq : xg mi y = some q) (h2 : q.2.2.2.2.1 = 2) (hv : v.1 = 2) (k : Q g (some v)) : cT G h0 n0 y d pc ls [v] g cn sn Q := by
  obtain ⟨t, z⟩ := v
  have hv : t = 2 := hv
  subst hv
  exact fun lf _ => ⟨(g, some (2, z)), k, ⟨1, by rw [hG.2 h0, dv_at hc]; rfl⟩, cU_lret hG.1 hc hq h2 rfl ⟨rfl, rfl⟩⟩
theorem cT_drop (hG : cW sv cd mi df el eb G) (hs : ∀ q ∈ ls', q ∈ ls) (k : cT G h0 n0 y d pc ls' st g cn sn Q) : cT G h0 n0 y d pc ls st g cn sn Q := by
  intro lf hl
  obtain ⟨o, q, e, u⟩ := k lf (fun x hx => hl x (hs x hx))
  exact ⟨o, q, e, cU_drop hG.1 hs u⟩
end RunD
end
