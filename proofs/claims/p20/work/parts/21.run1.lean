/-! What a run promises: it ends, and Q holds of the numbers then and of the answer -/
def cpl (w : xv) (z : Int) : xv := match w.1 with
  | 0 => (0, c32 z)
  | 2 => (2, c64 z)
  | _ => w
def cHR (h0 h : xheap) (g : cg) : Prop := ∀ (k : Nat) (q : xcell), xg h0 k = some q → ∃ t : xct, xg h k = some (q.1, q.2.1, t) ∧ ∀ (j : Nat) (w : xv), xg q.2.2 j = some w → xg t j = some (cpl w (g k j))
section Run
variable {sv : Nat → Int32} {cd : xcd} {mi : xmi} {df : xdf} {el : Nat → Nat} {eb : Nat → List Nat} {G : xG0} {h0 : xheap} {n0 : Nat}
def cU (G : xG0) (h0 : xheap) (n0 : Nat) (y d pc : Nat) (ls : List (Nat × cv)) (st : List cv) (g : cg) (cn sn : Nat) (Q : cg → Option cv → Prop) : Prop :=
  ∀ h : xheap, cHR h0 h g → ∃ (h' : xheap) (g' : cg) (rv : Option cv), cHR h0 h' g' ∧ Q g' rv ∧ G y d pc (ls.map cle) (st.map cenc) [] h n0 cn sn [([], h', n0, rv.map cenc)]
def cC (cd : xcd) (y pc : Nat) (e : xins) : Prop := ∃ t, xg cd y = some t ∧ xg t pc = some e
def cV (sv : Nat → Int32) (cd : xcd) (mi : xmi) (df : xdf) (el : Nat → Nat) (eb : Nat → List Nat) (G : xG0) : Prop := cG1 cd mi df el eb G ∧ cG2 sv G
variable {y d pc pc' nx tg r1 r2 cn sn : Nat} {ins : Instr} {ls ls' : List (Nat × cv)} {st st' : List cv} {g g' : cg} {Q Q' : cg → Option cv → Prop}
theorem cU.mono (h : cU G h0 n0 y d pc ls st g cn sn Q) (hq : ∀ g r, Q g r → Q' g r) : cU G h0 n0 y d pc ls st g cn sn Q' := by
  intro hp hh
  obtain ⟨h', g', rv, a, b, c⟩ := h hp hh
  exact ⟨h', g', rv, a, hq _ _ b, c⟩
theorem cC.step (hc : cC cd y pc (ins, nx, tg, r1, r2)) (rec : xF) (lx : List (Nat × xv)) (sx : List xv) (bx : xbox) (h : xheap) (n c s : Nat) : xstep cd mi df el eb rec y d pc lx sx bx h n c s = xex mi df el eb rec ins nx tg r1 r2 y d pc lx sx bx h n c s := by
  obtain ⟨t, h1, h2⟩ := hc
  unfold xstep
  rw [h1]
  dsimp only
  rw [h2]
/-- one step -/
theorem cU_st (hG : cV sv cd mi df el eb G) (hc : cC cd y pc (ins, nx, tg, r1, r2))
    (hS : ∀ h, cHR h0 h g → ∃ h', cHR h0 h' g' ∧ ∃ (lx : List (Nat × xv)) (sx : List xv), (∀ rec : xF, xex mi df el eb rec ins nx tg r1 r2 y d pc (ls.map cle) (st.map cenc) [] h n0 cn sn = rec y d pc' lx sx [] h' n0 cn sn) ∧ (∀ q' ∈ ls'.map cle, ∃ q ∈ lx, q.1 = q'.1 ∧ xim sv q.2 q'.2) ∧ ximS sv sx (st'.map cenc))
    (k : cU G h0 n0 y d pc' ls' st' g' cn sn Q) : cU G h0 n0 y d pc ls st g cn sn Q := by
  intro h hh
  obtain ⟨h1, hh1, lx, sx, e, q1, q2⟩ := hS h hh
  obtain ⟨h2, g2, rv, a, b, c⟩ := k h1 hh1
  refine ⟨h2, g2, rv, a, b, ?_⟩
  have c2 := hG.2 _ _ _ _ _ _ _ _ _ _ _ _ _ q1 q2 c
  refine hG.1 (xtwo (y, d, pc', lx, sx, [], h1, n0, cn, sn) (y, d, pc', lx, sx, [], h1, n0, cn, sn) _ _) (xtwo_ok c2 c2) _ _ _ _ _ _ _ _ _ _ _ ?_
  rw [hc.step, e]
  exact xtwo_1
theorem cls_rf (ls : List (Nat × cv)) : ∀ q' ∈ ls.map cle, ∃ q ∈ ls.map cle, q.1 = q'.1 ∧ xim sv q.2 q'.2 := fun q' hq => ⟨q', hq, rfl, Or.inl rfl⟩
/-- a step of the stack alone -/
theorem cU_s0 (hG : cV sv cd mi df el eb G) (hc : cC cd y pc (ins, nx, tg, r1, r2)) (sx : List xv)
    (e : ∀ (rec : xF) (h : xheap), xex mi df el eb rec ins nx tg r1 r2 y d pc (ls.map cle) (st.map cenc) [] h n0 cn sn = rec y d pc' (ls.map cle) sx [] h n0 cn sn) 
    (k : cU G h0 n0 y d pc' ls st' g cn sn Q) (hs : ximS sv sx (st'.map cenc)) : cU G h0 n0 y d pc ls st g cn sn Q :=
  cU_st hG hc (fun h hh => ⟨h, hh, ls.map cle, sx, fun rec => e rec h, cls_rf ls, hs⟩) k
theorem xim32 (a : Nat) : xim sv (0, a) (cenc (0, (nI a).toInt)) := Or.inr (Or.inr (Or.inl ⟨rfl, rfl, (i32_of (nI a)).symm⟩))
theorem xim64 (a : Nat) : xim sv (2, a) (cenc (2, (lN a).toInt)) := Or.inr (Or.inr (Or.inr ⟨rfl, rfl, (i64_of (lN a)).symm⟩))
theorem xim1 (i : Nat) : xim sv (1, i) (cenc (0, (sv i).toInt)) := by
  refine Or.inr (Or.inl ⟨rfl, ?_⟩)
  show (0, c32 (sv i).toInt) = (0, xnu (sv i))
  have h := i32_of (sv i)
  have h2 : xnu (nI (c32 (sv i).toInt)) = xnu (sv i) := congrArg xnu h
  have h3 : c32 (sv i).toInt < 4294967296 := by unfold c32; omega
  have h4 : xnu (nI (c32 (sv i).toInt)) = c32 (sv i).toInt := by
    show (BitVec.ofNat 32 _).toNat = _
    rw [BitVec.toNat_ofNat]
    exact Nat.mod_eq_of_lt h3
  rw [← h2, h4]
theorem ximF {a : Nat} {x : Int32} (h : nI a = x) : xim sv (0, a) (cenc (0, x.toInt)) := by rw [← h]; exact xim32 a
theorem ximFL {a : Nat} {x : Int64} (h : lN a = x) : xim sv (2, a) (cenc (2, x.toInt)) := by rw [← h]; exact xim64 a
/-- a number pushed -/
theorem cU_push (hG : cV sv cd mi df el eb G) (hc : cC cd y pc (ins, nx, tg, r1, r2)) (he : ∀ (rec : xF) (lx : List (Nat × xv)) (sx : List xv) (h : xheap), xex mi df el eb rec ins nx tg r1 r2 y d pc lx sx [] h n0 cn sn = rec y d nx lx ((0, r1) :: sx) [] h n0 cn sn)
    (k : cU G h0 n0 y d nx ls ((0, (nI r1).toInt) :: st) g cn sn Q) : cU G h0 n0 y d pc ls st g cn sn Q :=
  cU_s0 hG hc _ (fun rec h => he rec _ _ h) k ⟨xim32 _, ximS.rf sv _⟩
theorem cU_pushL (hG : cV sv cd mi df el eb G) (hc : cC cd y pc (ins, nx, tg, r1, r2)) (he : ∀ (rec : xF) (lx : List (Nat × xv)) (sx : List xv) (h : xheap), xex mi df el eb rec ins nx tg r1 r2 y d pc lx sx [] h n0 cn sn = rec y d nx lx ((2, r1) :: sx) [] h n0 cn sn)
    (k : cU G h0 n0 y d nx ls ((2, (lN r1).toInt) :: st) g cn sn Q) : cU G h0 n0 y d pc ls st g cn sn Q :=
  cU_s0 hG hc _ (fun rec h => he rec _ _ h) k ⟨xim64 _, ximS.rf sv _⟩
/-- anything else pushed -/
theorem cU_pushV (hG : cV sv cd mi df el eb G) (hc : cC cd y pc (ins, nx, tg, r1, r2)) {v : cv} (he : ∀ (rec : xF) (lx : List (Nat × xv)) (sx : List xv) (h : xheap), xex mi df el eb rec ins nx tg r1 r2 y d pc lx sx [] h n0 cn sn = rec y d nx lx (cenc v :: sx) [] h n0 cn sn)
    (k : cU G h0 n0 y d nx ls (v :: st) g cn sn Q) : cU G h0 n0 y d pc ls st g cn sn Q :=
  cU_s0 hG hc _ (fun rec h => he rec _ _ h) k ⟨Or.inl rfl, ximS.rf sv _⟩
/-- a local -/
def clk : List (Nat × cv) → Nat → Option cv
  | [], _ => none
  | q :: l, i => cond (Nat.beq q.1 i) (some q.2) (clk l i)
theorem clk_map (i : Nat) : ∀ ls : List (Nat × cv), xlk (ls.map cle) i = (clk ls i).map cenc
  | [] => rfl
  | q :: l => by
    show cond (Nat.beq q.1 i) (some (cenc q.2)) (xlk (l.map cle) i) = _
    rw [clk_map i l]
    show _ = (cond (Nat.beq q.1 i) (some q.2) (clk l i)).map cenc
    cases Nat.beq q.1 i <;> rfl
theorem cU_ld (hG : cV sv cd mi df el eb G) (hc : cC cd y pc (ins, nx, tg, r1, r2)) {k1 k2 : Nat} {v : cv} (he : ∀ (rec : xF) (lx : List (Nat × xv)) (sx : List xv) (h : xheap), xex mi df el eb rec ins nx tg r1 r2 y d pc lx sx [] h n0 cn sn = x_ld rec nx r1 y d lx sx [] h n0 cn sn k1 k2)
    (hv : clk ls r1 = some v) (hk : xkd v.1 = k1 ∨ xkd v.1 = k2) (k : cU G h0 n0 y d nx ls (v :: st) g cn sn Q) : cU G h0 n0 y d pc ls st g cn sn Q := by
  refine cU_s0 hG hc (cenc v :: st.map cenc) (fun rec h => ?_) k (ximS.rf sv _)
  rw [he]
  unfold x_ld
  rw [clk_map, hv]
  show cond (Nat.beq (xkd (cenc v).1) k1 || Nat.beq (xkd (cenc v).1) k2) _ none = _
  rw [cenc_1]
  have : (Nat.beq (xkd v.1) k1 || Nat.beq (xkd v.1) k2) = true := by
    rcases hk with e | e <;> rw [e, Nat.beq_refl]
    · rfl
    · cases Nat.beq k2 k1 <;> rfl
  rw [this]; rfl
/-- what is left of the locals behind a store -/
def ckp (f : Nat → Nat × xv → Bool) (i : Nat) (q : Nat × cv) : Bool := f i (q.1, (q.2.1, 0))
theorem ckp_map {f : Nat → Nat × xv → Bool} (hf : ∀ (i j : Nat) (w : xv), f i (j, w) = f i (j, (w.1, 0))) (i : Nat) : ∀ ls : List (Nat × cv), (ls.map cle).filter (f i) = (ls.filter (ckp f i)).map cle
  | [] => rfl
  | q :: l => by
    rw [List.map_cons, List.filter_cons, List.filter_cons, ckp_map hf i l]
    have e : f i (cle q) = ckp f i q := by
      show f i (q.1, cenc q.2) = f i (q.1, (q.2.1, 0))
      rw [hf, cenc_1]
    rw [e]
    cases ckp f i q <;> rfl
theorem xk1_0 (i j : Nat) (w : xv) : xk1 i (j, w) = xk1 i (j, (w.1, 0)) := rfl
theorem xk2_0 (i j : Nat) (w : xv) : xk2 i (j, w) = xk2 i (j, (w.1, 0)) := rfl
theorem cU_sto (hG : cV sv cd mi df el eb G) (hc : cC cd y pc (ins, nx, tg, r1, r2)) {k1 k2 : Nat} {f : Nat → Nat × xv → Bool} {v : cv} (hf : ∀ (i j : Nat) (w : xv), f i (j, w) = f i (j, (w.1, 0))) (he : ∀ (rec : xF) (lx : List (Nat × xv)) (sx : List xv) (h : xheap), xex mi df el eb rec ins nx tg r1 r2 y d pc lx sx [] h n0 cn sn = x_st rec nx r1 y d lx sx [] h n0 cn sn k1 k2 f)
    (hk : xkd v.1 = k1 ∨ xkd v.1 = k2) (k : cU G h0 n0 y d nx ((r1, v) :: ls.filter (ckp f r1)) st g cn sn Q) : cU G h0 n0 y d pc ls (v :: st) g cn sn Q := by
  refine cU_st (g' := g) hG hc (fun h hh => ⟨h, hh, cle (r1, v) :: (ls.filter (ckp f r1)).map cle, st.map cenc, fun rec => ?_, cls_rf ((r1, v) :: ls.filter (ckp f r1)), ximS.rf sv _⟩) k
  rw [he]
  show cond (Nat.beq (xkd (cenc v).1) k1 || Nat.beq (xkd (cenc v).1) k2) _ none = _
  rw [cenc_1]
  have : (Nat.beq (xkd v.1) k1 || Nat.beq (xkd v.1) k2) = true := by
    rcases hk with e | e <;> rw [e, Nat.beq_refl]
    · rfl
    · cases Nat.beq k2 k1 <;> rfl
  rw [this, xfl_eq, ckp_map hf]; rfl
theorem cU_inc (hG : cV sv cd mi df el eb G) {i : Nat} {z : Int} (hc : cC cd y pc (.iinc i z, nx, tg, r1, r2)) {a : Int} (hv : clk ls r1 = some (0, a))
    (k : cU G h0 n0 y d nx ((r1, (0, (i32 a + nI r2).toInt)) :: ls.filter (ckp xk1 r1)) st g cn sn Q) : cU G h0 n0 y d pc ls st g cn sn Q := by
  refine cU_st (g' := g) hG hc (fun h hh => ⟨h, hh, (r1, (0, (c32 a + r2) % 4294967296)) :: (ls.filter (ckp xk1 r1)).map cle, st.map cenc, fun rec => ?_, ?_, ximS.rf sv _⟩) k
  · show x_inc rec nx r1 r2 y d (ls.map cle) (st.map cenc) [] h n0 cn sn = _
    unfold x_inc
    rw [clk_map, hv]
    show xfl (xk1 r1) (ls.map cle) _ = _
    rw [xfl_eq, xfrc_eq, ckp_map xk1_0]
    rfl
  · intro q' hq'
    rcases List.mem_cons.mp hq' with e | hq'
    · refine ⟨_, List.mem_cons_self, ?_, ?_⟩
      · rw [e]; rfl
      · rw [e]
        exact ximF (a := (c32 a + r2) % 4294967296) (by rw [x32, ← nI_add, show nI (c32 a) = i32 a from rfl])
    · exact ⟨q', List.mem_cons_of_mem _ hq', rfl, Or.inl rfl⟩
theorem cU_bi (hG : cV sv cd mi df el eb G) (hc : cC cd y pc (ins, nx, tg, r1, r2)) {f : Nat → Nat → Nat} {F : Int32 → Int32 → Int32} {a b : Int} (he : ∀ (rec : xF) (lx : List (Nat × xv)) (sx : List xv) (h : xheap), xex mi df el eb rec ins nx tg r1 r2 y d pc lx sx [] h n0 cn sn = x_bi rec nx y d lx sx [] h n0 cn sn f) (hF : ∀ a b, nI (f a b) = F (nI a) (nI b))
    (k : cU G h0 n0 y d nx ls ((0, (F (i32 a) (i32 b)).toInt) :: st) g cn sn Q) : cU G h0 n0 y d pc ls ((0, b) :: (0, a) :: st) g cn sn Q := by
  refine cU_s0 hG hc ((0, f (c32 a) (c32 b)) :: st.map cenc) (fun rec h => ?_) k ⟨ximF (hF _ _), ximS.rf sv _⟩
  rw [he]
  show xfrc (f (c32 a) (c32 b)) (fun q => rec y d nx (ls.map cle) ((0, q) :: st.map cenc) [] h n0 cn sn) = _
  rw [xfrc_eq]
theorem c32_z {b : Int} (hb : cI b) (h : b ≠ 0) : Nat.beq (c32 b % 4294967296) 0 = false := by
  cases hq : Nat.beq (c32 b % 4294967296) 0 with
  | false => rfl
  | true =>
    have e := Nat.eq_of_beq_eq_true hq
    unfold c32 at e
    unfold cI at hb
    omega
theorem c64_z {b : Int} (hb : cL b) (h : b ≠ 0) : Nat.beq (c64 b % 18446744073709551616) 0 = false := by
  cases hq : Nat.beq (c64 b % 18446744073709551616) 0 with
  | false => rfl
  | true =>
    have e := Nat.eq_of_beq_eq_true hq
    unfold c64 at e
    unfold cL at hb
    omega
theorem cU_dv (hG : cV sv cd mi df el eb G) (hc : cC cd y pc (ins, nx, tg, r1, r2)) {f : Nat → Nat → Nat} {F : Int32 → Int32 → Int32} {a b : Int} (he : ∀ (rec : xF) (lx : List (Nat × xv)) (sx : List xv) (h : xheap), xex mi df el eb rec ins nx tg r1 r2 y d pc lx sx [] h n0 cn sn = x_dv rec nx y d lx sx [] h n0 cn sn f) (hF : ∀ a b, nI (f a b) = F (nI a) (nI b)) (hb : cI b) (hz : b ≠ 0)
    (k : cU G h0 n0 y d nx ls ((0, (F (i32 a) (i32 b)).toInt) :: st) g cn sn Q) : cU G h0 n0 y d pc ls ((0, b) :: (0, a) :: st) g cn sn Q := by
  refine cU_s0 hG hc ((0, f (c32 a) (c32 b)) :: st.map cenc) (fun rec h => ?_) k ⟨ximF (hF _ _), ximS.rf sv _⟩
  rw [he]
  show cond (Nat.beq (c32 b % 4294967296) 0) none (xfrc (f (c32 a) (c32 b)) (fun q => rec y d nx (ls.map cle) ((0, q) :: st.map cenc) [] h n0 cn sn)) = _
  rw [c32_z hb hz, xfrc_eq]; rfl
theorem cU_bl (hG : cV sv cd mi df el eb G) (hc : cC cd y pc (ins, nx, tg, r1, r2)) {f : Nat → Nat → Nat} {F : Int64 → Int64 → Int64} {a b : Int} (he : ∀ (rec : xF) (lx : List (Nat × xv)) (sx : List xv) (h : xheap), xex mi df el eb rec ins nx tg r1 r2 y d pc lx sx [] h n0 cn sn = x_bl rec nx y d lx sx [] h n0 cn sn f) (hF : ∀ a b, lN (f a b) = F (lN a) (lN b))
    (k : cU G h0 n0 y d nx ls ((2, (F (i64 a) (i64 b)).toInt) :: st) g cn sn Q) : cU G h0 n0 y d pc ls ((2, b) :: (2, a) :: st) g cn sn Q := by
  refine cU_s0 hG hc ((2, f (c64 a) (c64 b)) :: st.map cenc) (fun rec h => ?_) k ⟨ximFL (hF _ _), ximS.rf sv _⟩
  rw [he]
  show xfrc (f (c64 a) (c64 b)) (fun q => rec y d nx (ls.map cle) ((2, q) :: st.map cenc) [] h n0 cn sn) = _
  rw [xfrc_eq]
theorem cU_dl (hG : cV sv cd mi df el eb G) (hc : cC cd y pc (ins, nx, tg, r1, r2)) {f : Nat → Nat → Nat} {F : Int64 → Int64 → Int64} {a b : Int} (he : ∀ (rec : xF) (lx : List (Nat × xv)) (sx : List xv) (h : xheap), xex mi df el eb rec ins nx tg r1 r2 y d pc lx sx [] h n0 cn sn = x_dl rec nx y d lx sx [] h n0 cn sn f) (hF : ∀ a b, lN (f a b) = F (lN a) (lN b)) (hb : cL b) (hz : b ≠ 0)
    (k : cU G h0 n0 y d nx ls ((2, (F (i64 a) (i64 b)).toInt) :: st) g cn sn Q) : cU G h0 n0 y d pc ls ((2, b) :: (2, a) :: st) g cn sn Q := by
  refine cU_s0 hG hc ((2, f (c64 a) (c64 b)) :: st.map cenc) (fun rec h => ?_) k ⟨ximFL (hF _ _), ximS.rf sv _⟩
  rw [he]
  show cond (Nat.beq (c64 b % 18446744073709551616) 0) none (xfrc (f (c64 a) (c64 b)) (fun q => rec y d nx (ls.map cle) ((2, q) :: st.map cenc) [] h n0 cn sn)) = _
  rw [c64_z hb hz, xfrc_eq]; rfl
theorem cU_sl (hG : cV sv cd mi df el eb G) (hc : cC cd y pc (ins, nx, tg, r1, r2)) {f : Nat → Nat → Nat} {F : Int64 → Int32 → Int64} {a b : Int} (he : ∀ (rec : xF) (lx : List (Nat × xv)) (sx : List xv) (h : xheap), xex mi df el eb rec ins nx tg r1 r2 y d pc lx sx [] h n0 cn sn = x_sl rec nx y d lx sx [] h n0 cn sn f) (hF : ∀ a b, lN (f a b) = F (lN a) (nI b))
    (k : cU G h0 n0 y d nx ls ((2, (F (i64 a) (i32 b)).toInt) :: st) g cn sn Q) : cU G h0 n0 y d pc ls ((0, b) :: (2, a) :: st) g cn sn Q := by
  refine cU_s0 hG hc ((2, f (c64 a) (c32 b)) :: st.map cenc) (fun rec h => ?_) k ⟨ximFL (hF _ _), ximS.rf sv _⟩
  rw [he]
  show xfrc (f (c64 a) (c32 b)) (fun q => rec y d nx (ls.map cle) ((2, q) :: st.map cenc) [] h n0 cn sn) = _
  rw [xfrc_eq]
theorem cU_ui (hG : cV sv cd mi df el eb G) (hc : cC cd y pc (ins, nx, tg, r1, r2)) {f : Nat → Nat} {F : Int32 → Int32} {a : Int} (he : ∀ (rec : xF) (lx : List (Nat × xv)) (sx : List xv) (h : xheap), xex mi df el eb rec ins nx tg r1 r2 y d pc lx sx [] h n0 cn sn = x_ui rec nx y d lx sx [] h n0 cn sn f) (hF : ∀ a, nI (f a) = F (nI a))
    (k : cU G h0 n0 y d nx ls ((0, (F (i32 a)).toInt) :: st) g cn sn Q) : cU G h0 n0 y d pc ls ((0, a) :: st) g cn sn Q := by
  refine cU_s0 hG hc ((0, f (c32 a)) :: st.map cenc) (fun rec h => ?_) k ⟨ximF (hF _), ximS.rf sv _⟩
  rw [he]
  show xfrc (f (c32 a)) (fun q => rec y d nx (ls.map cle) ((0, q) :: st.map cenc) [] h n0 cn sn) = _
  rw [xfrc_eq]
theorem cU_i2l (hG : cV sv cd mi df el eb G) (hc : cC cd y pc (.i2l, nx, tg, r1, r2)) {a : Int} (ha : cI a)
    (k : cU G h0 n0 y d nx ls ((2, a) :: st) g cn sn Q) : cU G h0 n0 y d pc ls ((0, a) :: st) g cn sn Q := by
  refine cU_s0 hG hc ((2, xnl (nI (c32 a)).toInt64) :: st.map cenc) (fun rec h => ?_) k ⟨?_, ximS.rf sv _⟩
  · show xfrc (xnl (nI (c32 a)).toInt64) (fun q => rec y d nx (ls.map cle) ((2, q) :: st.map cenc) [] h n0 cn sn) = _
    rw [xfrc_eq]
  · have := ximFL (sv := sv) (lN_xnl (nI (c32 a)).toInt64)
    rw [x_i2lI, show (nI (c32 a)).toInt = a from i32_int ha] at this
    exact this
theorem cU_l2i (hG : cV sv cd mi df el eb G) (hc : cC cd y pc (.l2i, nx, tg, r1, r2)) {a : Int}
    (k : cU G h0 n0 y d nx ls ((0, (i64 a).toInt32.toInt) :: st) g cn sn Q) : cU G h0 n0 y d pc ls ((2, a) :: st) g cn sn Q := by
  refine cU_s0 hG hc ((0, c64 a % 4294967296) :: st.map cenc) (fun rec h => ?_) k ⟨ximF (by rw [x32, ← lN_l2i]; rfl), ximS.rf sv _⟩
  show xfrc (c64 a % 4294967296) (fun q => rec y d nx (ls.map cle) ((0, q) :: st.map cenc) [] h n0 cn sn) = _
  rw [xfrc_eq]
theorem cU_dup (hG : cV sv cd mi df el eb G) (hc : cC cd y pc (.dup, nx, tg, r1, r2)) {v : cv} (hv : Nat.beq (xkd v.1) 1 = false)
    (k : cU G h0 n0 y d nx ls (v :: v :: st) g cn sn Q) : cU G h0 n0 y d pc ls (v :: st) g cn sn Q := by
  refine cU_s0 hG hc _ (fun rec h => ?_) k (ximS.rf sv _)
  show cond (Nat.beq (xkd (cenc v).1) 1) none _ = _
  rw [cenc_1, hv]; rfl
theorem cU_pop (hG : cV sv cd mi df el eb G) (hc : cC cd y pc (.pop, nx, tg, r1, r2)) {v : cv} (hv : Nat.beq (xkd v.1) 1 = false)
    (k : cU G h0 n0 y d nx ls st g cn sn Q) : cU G h0 n0 y d pc ls (v :: st) g cn sn Q := by
  refine cU_s0 hG hc _ (fun rec h => ?_) k (ximS.rf sv _)
  show cond (Nat.beq (xkd (cenc v).1) 1) none _ = _
  rw [cenc_1, hv]; rfl
theorem cU_pop2 (hG : cV sv cd mi df el eb G) (hc : cC cd y pc (.pop2, nx, tg, r1, r2)) {v : cv} (hv : Nat.beq (xkd v.1) 1 = true)
    (k : cU G h0 n0 y d nx ls st g cn sn Q) : cU G h0 n0 y d pc ls (v :: st) g cn sn Q := by
  refine cU_s0 hG hc _ (fun rec h => ?_) k (ximS.rf sv _)
  show cond (Nat.beq (xkd (cenc v).1) 1) _ none = _
  rw [cenc_1, hv]; rfl
theorem cU_dup2L (hG : cV sv cd mi df el eb G) (hc : cC cd y pc (.dup2, nx, tg, r1, r2)) {v : cv} (hv : Nat.beq (xkd v.1) 1 = true)
    (k : cU G h0 n0 y d nx ls (v :: v :: st) g cn sn Q) : cU G h0 n0 y d pc ls (v :: st) g cn sn Q := by
  refine cU_s0 hG hc _ (fun rec h => ?_) k (ximS.rf sv _)
  show cond (Nat.beq (xkd (cenc v).1) 1) _ _ = _
  rw [cenc_1, hv]; rfl
theorem cU_dup2 (hG : cV sv cd mi df el eb G) (hc : cC cd y pc (.dup2, nx, tg, r1, r2)) {v w : cv} (hv : Nat.beq (xkd v.1) 1 = false) (hw : Nat.beq (xkd w.1) 1 = false)
    (k : cU G h0 n0 y d nx ls (v :: w :: v :: w :: st) g cn sn Q) : cU G h0 n0 y d pc ls (v :: w :: st) g cn sn Q := by
  refine cU_s0 hG hc _ (fun rec h => ?_) k (ximS.rf sv _)
  show cond (Nat.beq (xkd (cenc v).1) 1) _ (cond (Nat.beq (xkd (cenc w).1) 1) none _) = _
  rw [cenc_1, cenc_1, hv, hw]; rfl
theorem cU_goto (hG : cV sv cd mi df el eb G) {o : Int} (hc : cC cd y pc (.goto o, nx, tg, r1, r2)) (k : cU G h0 n0 y d tg ls st g cn sn Q) : cU G h0 n0 y d pc ls st g cn sn Q :=
  cU_s0 hG hc _ (fun _ _ => rfl) k (ximS.rf sv _)
/-! branches -/
def crel (o : Jvm.ClassFile.Cond) (a b : Int) : Bool :=
  match o with
  | .eq => decide (a = b)
  | .ne => decide (a ≠ b)
  | .lt => decide (a < b)
  | .ge => decide (b ≤ a)
  | .gt => decide (b < a)
  | .le => decide (a ≤ b)
theorem xoi_c {a : Int} (h : cI a) : (xoi (c32 a) : Int) = a + 9223372036854775808 := by
  rw [xoi_ok, xoff_int, show (nI (c32 a)).toInt = a from i32_int h]
theorem xol_c {a : Int} (h : cL a) : (xol (c64 a) : Int) = a + 9223372036854775808 := by
  rw [xol_ok, xoff_long, show (lN (c64 a)).toInt = a from i64_int h]
theorem xdec_c (o : Jvm.ClassFile.Cond) {x z : Nat} {a b : Int} (hx : (x : Int) = a + 9223372036854775808) (hz : (z : Int) = b + 9223372036854775808) : xdec o (x, x) (z, z) = some (crel o a b) := by
  have e1 : Nat.beq x z = decide (a = b) := by
    rw [Bool.eq_iff_iff]
    constructor
    · intro h
      have := Nat.eq_of_beq_eq_true h
      exact decide_eq_true (by omega)
    · intro h
      have := of_decide_eq_true h
      have : x = z := by omega
      rw [this]; exact Nat.beq_refl z
  have e2 : Nat.blt x z = decide (a < b) := by
    rw [Bool.eq_iff_iff]
    constructor
    · intro h
      have := xltb h
      exact decide_eq_true (by omega)
    · intro h
      have := of_decide_eq_true h
      exact Nat.ble_eq_true_of_le (by omega)
  have e3 : Nat.blt z x = decide (b < a) := by
    rw [Bool.eq_iff_iff]
    constructor
    · intro h
      have := xltb h
      exact decide_eq_true (by omega)
    · intro h
      have := of_decide_eq_true h
      exact Nat.ble_eq_true_of_le (by omega)
  have e4 : Nat.ble z x = decide (b ≤ a) := by
    rw [Bool.eq_iff_iff]
    constructor
    · intro h
      have := xleb h
      exact decide_eq_true (by omega)
    · intro h
      have := of_decide_eq_true h
      exact Nat.ble_eq_true_of_le (by omega)
  have e5 : Nat.ble x z = decide (a ≤ b) := by
    rw [Bool.eq_iff_iff]
    constructor
    · intro h
      have := xleb h
      exact decide_eq_true (by omega)
    · intro h
      have := of_decide_eq_true h
      exact Nat.ble_eq_true_of_le (by omega)
  have r1 := Nat.beq_refl x
  have r2 := Nat.beq_refl z
  cases o <;> unfold xdec crel <;> dsimp only <;> simp only [e1, e2, e3, e4, e5, r1, r2, Bool.true_and]
  · by_cases h : a = b
    · simp [h]
    · have : (decide (a < b) || decide (b < a)) = true := by
        rcases Int.lt_or_gt_of_ne h with q | q
        · simp [q]
        · simp [show b < a from q]
      simp [h, this]
  · by_cases h : a = b
    · simp [h]
    · have : (decide (a < b) || decide (b < a)) = true := by
        rcases Int.lt_or_gt_of_ne h with q | q
        · simp [q]
        · simp [show b < a from q]
      simp [h, this]
  · by_cases h : a < b
    · simp [h]
    · simp [h, show b ≤ a by omega]
  · by_cases h : a < b
    · simp [h, show ¬ b ≤ a by omega]
    · simp [h, show b ≤ a by omega]
  · by_cases h : b < a
    · simp [h]
    · simp [h, show a ≤ b by omega]
  · by_cases h : b < a
    · simp [h, show ¬ a ≤ b by omega]
    · simp [h, show a ≤ b by omega]
theorem cU_icmp (hG : cV sv cd mi df el eb G) {o : Jvm.ClassFile.Cond} {z : Int} (hc : cC cd y pc (.if_icmp o z, nx, tg, r1, r2)) {a b : Int} (ha : cI a) (hb : cI b)
    (k : cU G h0 n0 y d (cond (crel o a b) tg nx) ls st g cn sn Q) : cU G h0 n0 y d pc ls ((0, b) :: (0, a) :: st) g cn sn Q := by
  refine cU_s0 hG hc (st.map cenc) (fun rec h => ?_) k (ximS.rf sv _)
  show xbr o [] (0, c32 a) (0, c32 b) (fun t => rec y d (cond t tg nx) (ls.map cle) (st.map cenc) [] h n0 cn sn) (fun bx' => rec y d pc (ls.map cle) ((0, c32 b) :: (0, c32 a) :: st.map cenc) bx' h n0 cn sn) = _
  unfold xbr
  rw [show xrg [] (0, c32 a) = (xoi (c32 a), xoi (c32 a)) from rfl, show xrg [] (0, c32 b) = (xoi (c32 b), xoi (c32 b)) from rfl, xdec_c o (xoi_c ha) (xoi_c hb)]
theorem cU_if (hG : cV sv cd mi df el eb G) {o : Jvm.ClassFile.Cond} {z : Int} (hc : cC cd y pc (.ifCond o z, nx, tg, r1, r2)) {a : Int} (ha : cI a)
    (k : cU G h0 n0 y d (cond (crel o a 0) tg nx) ls st g cn sn Q) : cU G h0 n0 y d pc ls ((0, a) :: st) g cn sn Q := by
  refine cU_s0 hG hc (st.map cenc) (fun rec h => ?_) k (ximS.rf sv _)
  show xbr o [] (0, c32 a) (0, 0) (fun t => rec y d (cond t tg nx) (ls.map cle) (st.map cenc) [] h n0 cn sn) (fun bx' => rec y d pc (ls.map cle) ((0, c32 a) :: st.map cenc) bx' h n0 cn sn) = _
  unfold xbr
  rw [show xrg [] (0, c32 a) = (xoi (c32 a), xoi (c32 a)) from rfl, show xrg [] (0, 0) = (xoi (c32 0), xoi (c32 0)) from rfl, xdec_c o (xoi_c ha) (xoi_c (a := 0) (by unfold cI; omega))]
theorem cU_nul (hG : cV sv cd mi df el eb G) (hc : cC cd y pc (ins, nx, tg, r1, r2)) {t : Bool} (he : ∀ (rec : xF) (lx : List (Nat × xv)) (sx : List xv) (h : xheap), xex mi df el eb rec ins nx tg r1 r2 y d pc lx sx [] h n0 cn sn = x_nul rec nx tg y d lx sx [] h n0 cn sn t) {v : cv}
    (hv : (xkd v.1 = 2 ∧ pc' = cond t nx tg) ∨ (xkd v.1 = 3 ∧ pc' = cond t tg nx)) (k : cU G h0 n0 y d pc' ls st g cn sn Q) : cU G h0 n0 y d pc ls (v :: st) g cn sn Q := by
  refine cU_s0 hG hc (st.map cenc) (fun rec h => ?_) k (ximS.rf sv _)
  rw [he]
  show (match xkd (cenc v).1 with
    | 2 => rec y d (cond t nx tg) (ls.map cle) (st.map cenc) [] h n0 cn sn
    | 3 => rec y d (cond t tg nx) (ls.map cle) (st.map cenc) [] h n0 cn sn
    | _ => none) = _
  rw [cenc_1]
  rcases hv with ⟨e1, e2⟩ | ⟨e1, e2⟩ <;> rw [e1, e2] <;> rfl
theorem c32_m1 : c32 (-1) = 4294967295 := by decide +kernel
def csgn (z : Int) : Int := if z < 0 then -1 else if 0 < z then 1 else 0
theorem cU_lcmp (hG : cV sv cd mi df el eb G) (hc : cC cd y pc (.lcmp, nx, tg, r1, r2)) {a b : Int} (ha : cL a) (hb : cL b)
    (k : cU G h0 n0 y d nx ls ((0, csgn (a - b)) :: st) g cn sn Q) : cU G h0 n0 y d pc ls ((2, b) :: (2, a) :: st) g cn sn Q := by
  refine cU_s0 hG hc (cenc (0, csgn (a - b)) :: st.map cenc) (fun rec h => ?_) k (ximS.rf sv _)
  show x_lcmp rec nx y d pc (ls.map cle) ((2, c64 b) :: (2, c64 a) :: st.map cenc) [] h n0 cn sn = _
  have e1 : xdec .lt (xrg [] (2, c64 a)) (xrg [] (2, c64 b)) = some (crel .lt a b) := xdec_c .lt (xol_c ha) (xol_c hb)
  have e2 : xdec .gt (xrg [] (2, c64 a)) (xrg [] (2, c64 b)) = some (crel .gt a b) := xdec_c .gt (xol_c ha) (xol_c hb)
  have e0 : (Nat.beq (xkd 2) 1 && Nat.beq (xkd 2) 1) = true := rfl
  unfold x_lcmp
  dsimp only
  rw [e0, cond_true, e1, e2]
  show _ = rec y d nx (ls.map cle) ((0, c32 (csgn (a - b))) :: st.map cenc) [] h n0 cn sn
  unfold crel csgn
  dsimp only
  by_cases h1 : a < b
  · rw [if_pos (by omega)]
    rw [c32_m1]
    simp only [h1, decide_true]
  · rw [if_neg (by omega)]
    by_cases h2 : b < a
    · rw [if_pos (by omega)]
      rw [show c32 1 = 1 from rfl]
      simp only [h1, h2, decide_true, decide_false]
    · rw [if_neg (by omega)]
      rw [show c32 0 = 0 from rfl]
      simp only [h1, h2, decide_false]
end Run
