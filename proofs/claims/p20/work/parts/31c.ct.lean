/-! What a run promises, and that it is the function's -/
abbrev xG : Type := xG0 × (xheap → Nat → dF)
def cW (sv : Nat → Int32) (cd : xcd) (mi : xmi) (df : xdf) (el : Nat → Nat) (eb : Nat → List Nat) (G : xG) : Prop := cV sv cd mi df el eb G.1 ∧ ∀ h0 : xheap, G.2 h0 = dv cd h0 sv mi el eb
def dag (lf : dlf) (ls : List (Nat × cv)) : Prop := ∀ q ∈ ls, lf q.1 = q.2
theorem dclk_mem : ∀ {ls : List (Nat × cv)} {i : Nat} {v : cv}, clk ls i = some v → (i, v) ∈ ls
  | [], _, _, h => by cases h
  | q :: l, i, v, h => by
    have h : cond (Nat.beq q.1 i) (some q.2) (clk l i) = some v := h
    cases hb : Nat.beq q.1 i with
    | true =>
      rw [hb] at h
      have e1 := xeqb hb
      have e2 : q.2 = v := Option.some.inj h
      rw [← e1, ← e2]
      exact List.mem_cons_self
    | false =>
      rw [hb] at h
      exact List.mem_cons_of_mem _ (dclk_mem h)
theorem dag_lk {lf : dlf} {ls : List (Nat × cv)} (h : dag lf ls) {i : Nat} {v : cv} (hv : clk ls i = some v) : lf i = v := h (i, v) (dclk_mem hv)
theorem dset_self (lf : dlf) (i : Nat) (v : cv) : dset lf i v i = v := by
  unfold dset
  rw [Nat.beq_refl]
  rfl
theorem dset_other (lf : dlf) {i j : Nat} (v : cv) (h : j ≠ i) : dset lf i v j = lf j := by
  unfold dset
  cases hb : Nat.beq j i with
  | false => rfl
  | true => exact absurd (xeqb hb) h
theorem dag_set {lf : dlf} {ls : List (Nat × cv)} (h : dag lf ls) {f : Nat → Nat × xv → Bool} {i : Nat} (hz : ∀ (i : Nat) (w : xv), f i (i, w) = false) (v : cv) : dag (dset lf i v) ((i, v) :: ls.filter (ckp f i)) := by
  intro q hq
  rcases List.mem_cons.mp hq with e | hq
  · rw [e]; exact dset_self lf i v
  · obtain ⟨h1, h2⟩ := List.mem_filter.mp hq
    have hne : q.1 ≠ i := by
      intro e
      have h3 : f i (q.1, (q.2.1, 0)) = true := h2
      rw [e, hz] at h3
      cases h3
    rw [dset_other lf v hne]
    exact h q h1
theorem xk1_z (i : Nat) (w : xv) : xk1 i (i, w) = false := by
  show (!(Nat.beq i i) && _) = false
  rw [Nat.beq_refl]; rfl
theorem xk2_z (i : Nat) (w : xv) : xk2 i (i, w) = false := by
  show (!(Nat.beq i i) && _) = false
  rw [Nat.beq_refl]; rfl
theorem dval_ok {h0 : xheap} {k j : Nat} {q : xcell} {w : xv} (g : cg) (hq : xg h0 k = some q) (hw : xg q.2.2 j = some w) : dval h0 g ((k : Int).toNat) j = cval w (g k j) := by
  show dval h0 g k j = _
  unfold dval
  rw [hq]
  dsimp only
  rw [hw]
section RunD
variable {sv : Nat → Int32} {cd : xcd} {mi : xmi} {df : xdf} {el : Nat → Nat} {eb : Nat → List Nat} {G : xG} {h0 : xheap} {n0 : Nat}
def cT (G : xG) (h0 : xheap) (n0 : Nat) (y d pc : Nat) (ls : List (Nat × cv)) (st : List cv) (g : cg) (cn sn : Nat) (Q : cg → Option cv → Prop) : Prop :=
  ∀ lf : dlf, dag lf ls → ∃ o : cg × Option cv, Q o.1 o.2 ∧ (∃ f, G.2 h0 f y pc lf st g = some o) ∧ cU G.1 h0 n0 y d pc ls st g cn sn (fun g' r => g' = o.1 ∧ r = o.2)
variable {y d pc pc' nx tg r1 r2 cn sn : Nat} {ins : Instr} {ls ls' : List (Nat × cv)} {st st' : List cv} {g g' : cg} {Q Q' : cg → Option cv → Prop}
theorem cT.mono (h : cT G h0 n0 y d pc ls st g cn sn Q) (hq : ∀ g r, Q g r → Q' g r) : cT G h0 n0 y d pc ls st g cn sn Q' := by
  intro lf hl
  obtain ⟨o, q, e, u⟩ := h lf hl
  exact ⟨o, hq _ _ q, e, u⟩
/-- one step -/
theorem cT_one (hG : cW sv cd mi df el eb G) (hc : cC cd y pc (ins, nx, tg, r1, r2)) (φ : dlf → dlf) (hd : ∀ lf, dag lf ls → dnx h0 sv mi el eb ins nx tg r1 r2 pc lf st g = some (.inl (pc', φ lf, st', g'))) (ha : ∀ lf, dag lf ls → dag (φ lf) ls')
    (old : ∀ Q' : cg → Option cv → Prop, cU G.1 h0 n0 y d pc' ls' st' g' cn sn Q' → cU G.1 h0 n0 y d pc ls st g cn sn Q') (k : cT G h0 n0 y d pc' ls' st' g' cn sn Q) : cT G h0 n0 y d pc ls st g cn sn Q := by
  intro lf hl
  obtain ⟨o, q, ⟨f, e⟩, u⟩ := k (φ lf) (ha lf hl)
  refine ⟨o, q, ⟨f + 1, ?_⟩, old _ u⟩
  rw [hG.2 h0] at e ⊢
  rw [dv_at hc]
  dsimp only
  rw [hd lf hl]
  exact e
theorem cT_push (hG : cW sv cd mi df el eb G) (hc : cC cd y pc (ins, nx, tg, r1, r2)) (he : ∀ (rec : xF) (lx : List (Nat × xv)) (sx : List xv) (h : xheap), xex mi df el eb rec ins nx tg r1 r2 y d pc lx sx [] h n0 cn sn = rec y d nx lx ((0, r1) :: sx) [] h n0 cn sn) (hdn : ∀ (lf : dlf) (sx : List cv) (g : cg), dnx h0 sv mi el eb ins nx tg r1 r2 pc lf sx g = dnxt nx lf ((0, (nI r1).toInt) :: sx) g)
    (k : cT G h0 n0 y d nx ls ((0, (nI r1).toInt) :: st) g cn sn Q) : cT G h0 n0 y d pc ls st g cn sn Q :=
  cT_one hG hc id (fun lf _ => hdn lf _ _) (fun _ h => h) (fun _ u => cU_push hG.1 hc he u) k
theorem cT_pushL (hG : cW sv cd mi df el eb G) (hc : cC cd y pc (ins, nx, tg, r1, r2)) (he : ∀ (rec : xF) (lx : List (Nat × xv)) (sx : List xv) (h : xheap), xex mi df el eb rec ins nx tg r1 r2 y d pc lx sx [] h n0 cn sn = rec y d nx lx ((2, r1) :: sx) [] h n0 cn sn) (hdn : ∀ (lf : dlf) (sx : List cv) (g : cg), dnx h0 sv mi el eb ins nx tg r1 r2 pc lf sx g = dnxt nx lf ((2, (lN r1).toInt) :: sx) g)
    (k : cT G h0 n0 y d nx ls ((2, (lN r1).toInt) :: st) g cn sn Q) : cT G h0 n0 y d pc ls st g cn sn Q :=
  cT_one hG hc id (fun lf _ => hdn lf _ _) (fun _ h => h) (fun _ u => cU_pushL hG.1 hc he u) k
theorem cT_pushV (hG : cW sv cd mi df el eb G) (hc : cC cd y pc (ins, nx, tg, r1, r2)) {v : cv} (he : ∀ (rec : xF) (lx : List (Nat × xv)) (sx : List xv) (h : xheap), xex mi df el eb rec ins nx tg r1 r2 y d pc lx sx [] h n0 cn sn = rec y d nx lx (cenc v :: sx) [] h n0 cn sn) (hdn : ∀ (lf : dlf) (sx : List cv) (g : cg), dnx h0 sv mi el eb ins nx tg r1 r2 pc lf sx g = dnxt nx lf (v :: sx) g)
    (k : cT G h0 n0 y d nx ls (v :: st) g cn sn Q) : cT G h0 n0 y d pc ls st g cn sn Q :=
  cT_one hG hc id (fun lf _ => hdn lf _ _) (fun _ h => h) (fun _ u => cU_pushV hG.1 hc he u) k
theorem cT_ld (hG : cW sv cd mi df el eb G) (hc : cC cd y pc (ins, nx, tg, r1, r2)) {k1 k2 : Nat} {v : cv} (he : ∀ (rec : xF) (lx : List (Nat × xv)) (sx : List xv) (h : xheap), xex mi df el eb rec ins nx tg r1 r2 y d pc lx sx [] h n0 cn sn = x_ld rec nx r1 y d lx sx [] h n0 cn sn k1 k2) (hdn : ∀ (lf : dlf) (sx : List cv) (g : cg), dnx h0 sv mi el eb ins nx tg r1 r2 pc lf sx g = dnxt nx lf (lf r1 :: sx) g)
    (hv : clk ls r1 = some v) (hk : xkd v.1 = k1 ∨ xkd v.1 = k2) (k : cT G h0 n0 y d nx ls (v :: st) g cn sn Q) : cT G h0 n0 y d pc ls st g cn sn Q :=
  cT_one hG hc id (fun lf hl => by rw [hdn lf, dag_lk hl hv]; rfl) (fun _ h => h) (fun _ u => cU_ld hG.1 hc he hv hk u) k
theorem cT_sto (hG : cW sv cd mi df el eb G) (hc : cC cd y pc (ins, nx, tg, r1, r2)) {k1 k2 : Nat} {f : Nat → Nat × xv → Bool} {v : cv} (hf : ∀ (i j : Nat) (w : xv), f i (j, w) = f i (j, (w.1, 0))) (hfz : ∀ (i : Nat) (w : xv), f i (i, w) = false) (he : ∀ (rec : xF) (lx : List (Nat × xv)) (sx : List xv) (h : xheap), xex mi df el eb rec ins nx tg r1 r2 y d pc lx sx [] h n0 cn sn = x_st rec nx r1 y d lx sx [] h n0 cn sn k1 k2 f) (hdn : ∀ (lf : dlf) (sx : List cv) (g : cg), dnx h0 sv mi el eb ins nx tg r1 r2 pc lf sx g = d_sto nx r1 lf sx g)
    (hk : xkd v.1 = k1 ∨ xkd v.1 = k2) (k : cT G h0 n0 y d nx ((r1, v) :: ls.filter (ckp f r1)) st g cn sn Q) : cT G h0 n0 y d pc ls (v :: st) g cn sn Q :=
  cT_one hG hc (fun lf => dset lf r1 v) (fun lf _ => hdn lf _ _) (fun _ h => dag_set h hfz v) (fun _ u => cU_sto hG.1 hc hf he hk u) k
theorem cT_inc (hG : cW sv cd mi df el eb G) {i : Nat} {z : Int} (hc : cC cd y pc (.iinc i z, nx, tg, r1, r2)) {a : Int} (hv : clk ls r1 = some (0, a))
    (k : cT G h0 n0 y d nx ((r1, (0, (i32 a + nI r2).toInt)) :: ls.filter (ckp xk1 r1)) st g cn sn Q) : cT G h0 n0 y d pc ls st g cn sn Q :=
  cT_one hG hc (fun lf => dset lf r1 (0, (i32 a + nI r2).toInt)) (fun lf hl => by
    show dnxt nx (dset lf r1 (0, w32 ((lf r1).2 + w32 (r2 : Int)))) st g = _
    have e : w32 (a + w32 (r2 : Int)) = (i32 a + nI r2).toInt := by
      have e2 : nI r2 = i32 (nI r2).toInt := (i32_of (nI r2)).symm
      rw [e2, i32_add, i32_w, nI_w]
    rw [dag_lk hl hv]
    show dnxt nx (dset lf r1 (0, w32 (a + w32 (r2 : Int)))) st g = _
    rw [e]; rfl) (fun _ h => dag_set h xk1_z _) (fun _ u => cU_inc hG.1 hc hv u) k
theorem cT_bi (hG : cW sv cd mi df el eb G) (hc : cC cd y pc (ins, nx, tg, r1, r2)) {f : Nat → Nat → Nat} {F : Int32 → Int32 → Int32} {a b : Int} (he : ∀ (rec : xF) (lx : List (Nat × xv)) (sx : List xv) (h : xheap), xex mi df el eb rec ins nx tg r1 r2 y d pc lx sx [] h n0 cn sn = x_bi rec nx y d lx sx [] h n0 cn sn f) (hdn : ∀ (lf : dlf) (sx : List cv) (g : cg), dnx h0 sv mi el eb ins nx tg r1 r2 pc lf sx g = d_bi F nx lf sx g) (hF : ∀ a b, nI (f a b) = F (nI a) (nI b))
    (k : cT G h0 n0 y d nx ls ((0, (F (i32 a) (i32 b)).toInt) :: st) g cn sn Q) : cT G h0 n0 y d pc ls ((0, b) :: (0, a) :: st) g cn sn Q :=
  cT_one hG hc id (fun lf _ => hdn lf _ _) (fun _ h => h) (fun _ u => cU_bi hG.1 hc he hF u) k
theorem cT_dv (hG : cW sv cd mi df el eb G) (hc : cC cd y pc (ins, nx, tg, r1, r2)) {f : Nat → Nat → Nat} {F : Int32 → Int32 → Int32} {a b : Int} (he : ∀ (rec : xF) (lx : List (Nat × xv)) (sx : List xv) (h : xheap), xex mi df el eb rec ins nx tg r1 r2 y d pc lx sx [] h n0 cn sn = x_dv rec nx y d lx sx [] h n0 cn sn f) (hdn : ∀ (lf : dlf) (sx : List cv) (g : cg), dnx h0 sv mi el eb ins nx tg r1 r2 pc lf sx g = d_bi F nx lf sx g) (hF : ∀ a b, nI (f a b) = F (nI a) (nI b)) (hb : cI b) (hz : b ≠ 0)
    (k : cT G h0 n0 y d nx ls ((0, (F (i32 a) (i32 b)).toInt) :: st) g cn sn Q) : cT G h0 n0 y d pc ls ((0, b) :: (0, a) :: st) g cn sn Q :=
  cT_one hG hc id (fun lf _ => hdn lf _ _) (fun _ h => h) (fun _ u => cU_dv hG.1 hc he hF hb hz u) k
theorem cT_bl (hG : cW sv cd mi df el eb G) (hc : cC cd y pc (ins, nx, tg, r1, r2)) {f : Nat → Nat → Nat} {F : Int64 → Int64 → Int64} {a b : Int} (he : ∀ (rec : xF) (lx : List (Nat × xv)) (sx : List xv) (h : xheap), xex mi df el eb rec ins nx tg r1 r2 y d pc lx sx [] h n0 cn sn = x_bl rec nx y d lx sx [] h n0 cn sn f) (hdn : ∀ (lf : dlf) (sx : List cv) (g : cg), dnx h0 sv mi el eb ins nx tg r1 r2 pc lf sx g = d_bl F nx lf sx g) (hF : ∀ a b, lN (f a b) = F (lN a) (lN b))
    (k : cT G h0 n0 y d nx ls ((2, (F (i64 a) (i64 b)).toInt) :: st) g cn sn Q) : cT G h0 n0 y d pc ls ((2, b) :: (2, a) :: st) g cn sn Q :=
  cT_one hG hc id (fun lf _ => hdn lf _ _) (fun _ h => h) (fun _ u => cU_bl hG.1 hc he hF u) k
theorem cT_dl (hG : cW sv cd mi df el eb G) (hc : cC cd y pc (ins, nx, tg, r1, r2)) {f : Nat → Nat → Nat} {F : Int64 → Int64 → Int64} {a b : Int} (he : ∀ (rec : xF) (lx : List (Nat × xv)) (sx : List xv) (h : xheap), xex mi df el eb rec ins nx tg r1 r2 y d pc lx sx [] h n0 cn sn = x_dl rec nx y d lx sx [] h n0 cn sn f) (hdn : ∀ (lf : dlf) (sx : List cv) (g : cg), dnx h0 sv mi el eb ins nx tg r1 r2 pc lf sx g = d_bl F nx lf sx g) (hF : ∀ a b, lN (f a b) = F (lN a) (lN b)) (hb : cL b) (hz : b ≠ 0)
    (k : cT G h0 n0 y d nx ls ((2, (F (i64 a) (i64 b)).toInt) :: st) g cn sn Q) : cT G h0 n0 y d pc ls ((2, b) :: (2, a) :: st) g cn sn Q :=
  cT_one hG hc id (fun lf _ => hdn lf _ _) (fun _ h => h) (fun _ u => cU_dl hG.1 hc he hF hb hz u) k
theorem cT_sl (hG : cW sv cd mi df el eb G) (hc : cC cd y pc (ins, nx, tg, r1, r2)) {f : Nat → Nat → Nat} {F : Int64 → Int32 → Int64} {a b : Int} (he : ∀ (rec : xF) (lx : List (Nat × xv)) (sx : List xv) (h : xheap), xex mi df el eb rec ins nx tg r1 r2 y d pc lx sx [] h n0 cn sn = x_sl rec nx y d lx sx [] h n0 cn sn f) (hdn : ∀ (lf : dlf) (sx : List cv) (g : cg), dnx h0 sv mi el eb ins nx tg r1 r2 pc lf sx g = d_sl F nx lf sx g) (hF : ∀ a b, lN (f a b) = F (lN a) (nI b))
    (k : cT G h0 n0 y d nx ls ((2, (F (i64 a) (i32 b)).toInt) :: st) g cn sn Q) : cT G h0 n0 y d pc ls ((0, b) :: (2, a) :: st) g cn sn Q :=
  cT_one hG hc id (fun lf _ => hdn lf _ _) (fun _ h => h) (fun _ u => cU_sl hG.1 hc he hF u) k
theorem cT_ui (hG : cW sv cd mi df el eb G) (hc : cC cd y pc (ins, nx, tg, r1, r2)) {f : Nat → Nat} {F : Int32 → Int32} {a : Int} (he : ∀ (rec : xF) (lx : List (Nat × xv)) (sx : List xv) (h : xheap), xex mi df el eb rec ins nx tg r1 r2 y d pc lx sx [] h n0 cn sn = x_ui rec nx y d lx sx [] h n0 cn sn f) (hdn : ∀ (lf : dlf) (sx : List cv) (g : cg), dnx h0 sv mi el eb ins nx tg r1 r2 pc lf sx g = d_ui F nx lf sx g) (hF : ∀ a, nI (f a) = F (nI a))
    (k : cT G h0 n0 y d nx ls ((0, (F (i32 a)).toInt) :: st) g cn sn Q) : cT G h0 n0 y d pc ls ((0, a) :: st) g cn sn Q :=
  cT_one hG hc id (fun lf _ => hdn lf _ _) (fun _ h => h) (fun _ u => cU_ui hG.1 hc he hF u) k
theorem cT_i2l (hG : cW sv cd mi df el eb G) (hc : cC cd y pc (.i2l, nx, tg, r1, r2)) {a : Int} (ha : cI a)
    (k : cT G h0 n0 y d nx ls ((2, a) :: st) g cn sn Q) : cT G h0 n0 y d pc ls ((0, a) :: st) g cn sn Q :=
  cT_one hG hc id (fun _ _ => rfl) (fun _ h => h) (fun _ u => cU_i2l hG.1 hc ha u) k
theorem cT_l2i (hG : cW sv cd mi df el eb G) (hc : cC cd y pc (.l2i, nx, tg, r1, r2)) {a : Int}
    (k : cT G h0 n0 y d nx ls ((0, (i64 a).toInt32.toInt) :: st) g cn sn Q) : cT G h0 n0 y d pc ls ((2, a) :: st) g cn sn Q :=
  cT_one hG hc id (fun _ _ => rfl) (fun _ h => h) (fun _ u => cU_l2i hG.1 hc u) k
theorem cT_dup (hG : cW sv cd mi df el eb G) (hc : cC cd y pc (.dup, nx, tg, r1, r2)) {v : cv} (hv : Nat.beq (xkd v.1) 1 = false)
    (k : cT G h0 n0 y d nx ls (v :: v :: st) g cn sn Q) : cT G h0 n0 y d pc ls (v :: st) g cn sn Q :=
  cT_one hG hc id (fun _ _ => rfl) (fun _ h => h) (fun _ u => cU_dup hG.1 hc hv u) k
theorem cT_pop (hG : cW sv cd mi df el eb G) (hc : cC cd y pc (.pop, nx, tg, r1, r2)) {v : cv} (hv : Nat.beq (xkd v.1) 1 = false)
    (k : cT G h0 n0 y d nx ls st g cn sn Q) : cT G h0 n0 y d pc ls (v :: st) g cn sn Q :=
  cT_one hG hc id (fun _ _ => rfl) (fun _ h => h) (fun _ u => cU_pop hG.1 hc hv u) k
theorem cT_pop2 (hG : cW sv cd mi df el eb G) (hc : cC cd y pc (.pop2, nx, tg, r1, r2)) {v : cv} (hv : Nat.beq (xkd v.1) 1 = true)
    (k : cT G h0 n0 y d nx ls st g cn sn Q) : cT G h0 n0 y d pc ls (v :: st) g cn sn Q :=
  cT_one hG hc id (fun _ _ => rfl) (fun _ h => h) (fun _ u => cU_pop2 hG.1 hc hv u) k
theorem cT_dup2L (hG : cW sv cd mi df el eb G) (hc : cC cd y pc (.dup2, nx, tg, r1, r2)) {v : cv} (hv : Nat.beq (xkd v.1) 1 = true)
    (k : cT G h0 n0 y d nx ls (v :: v :: st) g cn sn Q) : cT G h0 n0 y d pc ls (v :: st) g cn sn Q :=
  cT_one hG hc id (fun lf _ => by
    show cond (Nat.beq (xkd v.1) 1) _ _ = _
    rw [hv]; rfl) (fun _ h => h) (fun _ u => cU_dup2L hG.1 hc hv u) k
theorem cT_dup2 (hG : cW sv cd mi df el eb G) (hc : cC cd y pc (.dup2, nx, tg, r1, r2)) {v w : cv} (hv : Nat.beq (xkd v.1) 1 = false) (hw : Nat.beq (xkd w.1) 1 = false)
    (k : cT G h0 n0 y d nx ls (v :: w :: v :: w :: st) g cn sn Q) : cT G h0 n0 y d pc ls (v :: w :: st) g cn sn Q :=
  cT_one hG hc id (fun lf _ => by
    show cond (Nat.beq (xkd v.1) 1) _ _ = _
    rw [hv]; rfl) (fun _ h => h) (fun _ u => cU_dup2 hG.1 hc hv hw u) k
theorem cT_goto (hG : cW sv cd mi df el eb G) {o : Int} (hc : cC cd y pc (.goto o, nx, tg, r1, r2)) (k : cT G h0 n0 y d tg ls st g cn sn Q) : cT G h0 n0 y d pc ls st g cn sn Q :=
  cT_one hG hc id (fun _ _ => rfl) (fun _ h => h) (fun _ u => cU_goto hG.1 hc u) k
theorem cT_icmp (hG : cW sv cd mi df el eb G) {o : Jvm.ClassFile.Cond} {z : Int} (hc : cC cd y pc (.if_icmp o z, nx, tg, r1, r2)) {a b : Int} (ha : cI a) (hb : cI b)
    (k : cT G h0 n0 y d (cond (crel o a b) tg nx) ls st g cn sn Q) : cT G h0 n0 y d pc ls ((0, b) :: (0, a) :: st) g cn sn Q :=
  cT_one hG hc id (fun _ _ => rfl) (fun _ h => h) (fun _ u => cU_icmp hG.1 hc ha hb u) k
theorem cT_if (hG : cW sv cd mi df el eb G) {o : Jvm.ClassFile.Cond} {z : Int} (hc : cC cd y pc (.ifCond o z, nx, tg, r1, r2)) {a : Int} (ha : cI a)
    (k : cT G h0 n0 y d (cond (crel o a 0) tg nx) ls st g cn sn Q) : cT G h0 n0 y d pc ls ((0, a) :: st) g cn sn Q :=
  cT_one hG hc id (fun _ _ => rfl) (fun _ h => h) (fun _ u => cU_if hG.1 hc ha u) k
theorem cT_nul (hG : cW sv cd mi df el eb G) (hc : cC cd y pc (ins, nx, tg, r1, r2)) {t : Bool} (he : ∀ (rec : xF) (lx : List (Nat × xv)) (sx : List xv) (h : xheap), xex mi df el eb rec ins nx tg r1 r2 y d pc lx sx [] h n0 cn sn = x_nul rec nx tg y d lx sx [] h n0 cn sn t) (hdn : ∀ (lf : dlf) (sx : List cv) (g : cg), dnx h0 sv mi el eb ins nx tg r1 r2 pc lf sx g = d_nul nx tg t lf sx g) {v : cv}
    (hv : (xkd v.1 = 2 ∧ pc' = cond t nx tg) ∨ (xkd v.1 = 3 ∧ pc' = cond t tg nx)) (k : cT G h0 n0 y d pc' ls st g cn sn Q) : cT G h0 n0 y d pc ls (v :: st) g cn sn Q :=
  cT_one hG hc id (fun lf _ => by
    rw [hdn lf]
    show dnxt (cond (Nat.beq (xkd v.1) 2) (cond t nx tg) (cond t tg nx)) lf st g = _
    rcases hv with ⟨e1, e2⟩ | ⟨e1, e2⟩ <;> rw [e1, e2] <;> rfl) (fun _ h => h) (fun _ u => cU_nul hG.1 hc he hv u) k
theorem cT_lcmp (hG : cW sv cd mi df el eb G) (hc : cC cd y pc (.lcmp, nx, tg, r1, r2)) {a b : Int} (ha : cL a) (hb : cL b)
    (k : cT G h0 n0 y d nx ls ((0, csgn (a - b)) :: st) g cn sn Q) : cT G h0 n0 y d pc ls ((2, b) :: (2, a) :: st) g cn sn Q :=
  cT_one hG hc id (fun _ _ => rfl) (fun _ h => h) (fun _ u => cU_lcmp hG.1 hc ha hb u) k
theorem cT_tab (hG : cW sv cd mi df el eb G) {a b e : Int} {f : Array Int} (hc : cC cd y pc (.tableswitch a b e f, nx, tg, r1, r2)) {z : Int} (hz : cI z) {t : Nat} (ht : xts a b e f pc z = some t)
    (k : cT G h0 n0 y d t ls st g cn sn Q) : cT G h0 n0 y d pc ls ((0, z) :: st) g cn sn Q :=
  cT_one hG hc id (fun lf _ => by
    show (match xts a b e f pc z with
      | none => none
      | some t => dnxt t lf st g) = _
    rw [ht]; rfl) (fun _ h => h) (fun _ u => cU_tab hG.1 hc hz ht u) k
theorem cT_lkp (hG : cW sv cd mi df el eb G) {a : Int} {f : Array (Int × Int)} (hc : cC cd y pc (.lookupswitch a f, nx, tg, r1, r2)) {z : Int} (hz : cI z) (ht : 0 ≤ (pc : Int) + Op.lookupswitch.offset f.toList a z)
    (k : cT G h0 n0 y d ((pc : Int) + Op.lookupswitch.offset f.toList a z).toNat ls st g cn sn Q) : cT G h0 n0 y d pc ls ((0, z) :: st) g cn sn Q :=
  cT_one hG hc id (fun _ _ => rfl) (fun _ h => h) (fun _ u => cU_lkp hG.1 hc hz ht u) k
theorem cT_get (hG : cW sv cd mi df el eb G) {i : Nat} (hc : cC cd y pc (.getfield i, nx, tg, r1, r2)) {k : Nat} {q : xcell} {w : xv} (hq : xg h0 k = some q) (hk : q.1 = r1) (h13 : r1 < 13) (hw : xg q.2.2 r2 = some w)
    (kk : cT G h0 n0 y d nx ls (cval w (g k r2) :: st) g cn sn Q) : cT G h0 n0 y d pc ls ((4, (k : Int)) :: st) g cn sn Q :=
  cT_one hG hc id (fun lf _ => by
    show dnxt nx lf (dval h0 g ((k : Int).toNat) r2 :: st) g = _
    rw [dval_ok g hq hw]; rfl) (fun _ h => h) (fun _ u => cU_get hG.1 hc hq hk h13 hw u) kk
theorem cT_getE (hG : cW sv cd mi df el eb G) {i : Nat} (hc : cC cd y pc (.getfield i, nx, tg, r1, r2)) {k : Nat} (hk : k = 1 ∨ k = 3) (h98 : r1 = 98)
    (kk : cT G h0 n0 y d nx ls ((cond (Nat.beq r2 0) (6, ((k + 1 : Nat) : Int)) (0, 0)) :: st) g cn sn Q) : cT G h0 n0 y d pc ls ((6, (k : Int)) :: st) g cn sn Q :=
  cT_one hG hc id (fun _ _ => rfl) (fun _ h => h) (fun _ u => cU_getE hG.1 hc hk h98 u) kk
theorem cT_put (hG : cW sv cd mi df el eb G) {i : Nat} (hc : cC cd y pc (.putfield i, nx, tg, r1, r2)) {k : Nat} {q : xcell} {w : xv} {v : cv} (hq : xg h0 k = some q) (hk : q.1 = r1) (hl : r2 < q.2.1) (hw : xg q.2.2 r2 = some w) (hv : cenc v = cpl w v.2) (hf : xfit tg (cenc v) = true)
    (kk : cT G h0 n0 y d nx ls st (cup g k r2 v.2) cn sn Q) : cT G h0 n0 y d pc ls (v :: (4, (k : Int)) :: st) g cn sn Q :=
  cT_one hG hc id (fun _ _ => rfl) (fun _ h => h) (fun _ u => cU_put hG.1 hc hq hk hl hw hv hf u) kk
theorem cT_len (hG : cW sv cd mi df el eb G) (hc : cC cd y pc (.arraylength, nx, tg, r1, r2)) {k : Nat} {q : xcell} (hq : xg h0 k = some q) (h13 : 13 ≤ q.1) (hl : q.2.1 < 2147483648)
    (kk : cT G h0 n0 y d nx ls ((0, (q.2.1 : Int)) :: st) g cn sn Q) : cT G h0 n0 y d pc ls ((4, (k : Int)) :: st) g cn sn Q :=
  cT_one hG hc id (fun lf _ => by
    show dnxt nx lf ((0, (dln h0 k : Int)) :: st) g = _
    unfold dln
    rw [hq]; rfl) (fun _ h => h) (fun _ u => cU_len hG.1 hc hq h13 hl u) kk
theorem cT_lenE (hG : cW sv cd mi df el eb G) (hc : cC cd y pc (.arraylength, nx, tg, r1, r2)) {k : Nat} (hk : k = 0 ∨ k = 2 ∨ k = 4) (hl : el k < 2147483648)
    (kk : cT G h0 n0 y d nx ls ((0, (el k : Int)) :: st) g cn sn Q) : cT G h0 n0 y d pc ls ((6, (k : Int)) :: st) g cn sn Q :=
  cT_one hG hc id (fun _ _ => rfl) (fun _ h => h) (fun _ u => cU_lenE hG.1 hc hk hl u) kk
theorem cT_ald (hG : cW sv cd mi df el eb G) (hc : cC cd y pc (ins, nx, tg, r1, r2)) {kd : Nat} (he : ∀ (rec : xF) (lx : List (Nat × xv)) (sx : List xv) (h : xheap), xex mi df el eb rec ins nx tg r1 r2 y d pc lx sx [] h n0 cn sn = x_ald el eb rec nx y d pc lx sx [] h n0 cn sn kd) (hdn : ∀ (lf : dlf) (sx : List cv) (g : cg), dnx h0 sv mi el eb ins nx tg r1 r2 pc lf sx g = d_ald h0 sv eb kd nx lf sx g)
    {k i : Nat} {q : xcell} {w : xv} (hq : xg h0 k = some q) (hk : q.1 = kd ∨ (kd = 20 ∧ 20 ≤ q.1)) (hl : i < q.2.1) (h31 : i < 2147483648) (hw : xg q.2.2 i = some w)
    (kk : cT G h0 n0 y d nx ls (cval w (g k i) :: st) g cn sn Q) : cT G h0 n0 y d pc ls ((0, (i : Int)) :: (4, (k : Int)) :: st) g cn sn Q :=
  cT_one hG hc id (fun lf _ => by
    rw [hdn lf]
    show dnxt nx lf (dval h0 g ((k : Int).toNat) i :: st) g = _
    rw [dval_ok g hq hw]; rfl) (fun _ h => h) (fun _ u => cU_ald hG.1 hc he hq hk hl h31 hw u) kk
theorem cT_aldS (hG : cW sv cd mi df el eb G) (hc : cC cd y pc (.iaload, nx, tg, r1, r2)) {i : Nat} (hl : i < el 0) (h31 : i < 2147483648)
    (kk : cT G h0 n0 y d nx ls ((0, (sv i).toInt) :: st) g cn sn Q) : cT G h0 n0 y d pc ls ((0, (i : Int)) :: (6, 0) :: st) g cn sn Q :=
  cT_one hG hc id (fun _ _ => rfl) (fun _ h => h) (fun _ u => cU_aldS hG.1 hc hl h31 u) kk
theorem cT_aldT (hG : cW sv cd mi df el eb G) (hc : cC cd y pc (.baload, nx, tg, r1, r2)) {i k : Nat} (hk : k = 2 ∨ k = 4) (hl : i < el k) (h31 : i < 2147483648)
    (kk : cT G h0 n0 y d nx ls ((0, (nI ((eb k).getD i 0)).toInt) :: st) g cn sn Q) : cT G h0 n0 y d pc ls ((0, (i : Int)) :: (6, (k : Int)) :: st) g cn sn Q :=
  cT_one hG hc id (fun _ _ => rfl) (fun _ h => h) (fun _ u => cU_aldT hG.1 hc hk hl h31 u) kk
theorem cT_ast (hG : cW sv cd mi df el eb G) (hc : cC cd y pc (ins, nx, tg, r1, r2)) {kd : Nat} (he : ∀ (rec : xF) (lx : List (Nat × xv)) (sx : List xv) (h : xheap), xex mi df el eb rec ins nx tg r1 r2 y d pc lx sx [] h n0 cn sn = x_ast rec nx y d pc lx sx [] h n0 cn sn kd) (hdn : ∀ (lf : dlf) (sx : List cv) (g : cg), dnx h0 sv mi el eb ins nx tg r1 r2 pc lf sx g = d_ast kd nx lf sx g)
    {k i : Nat} {q : xcell} {w : xv} {v : cv} (hq : xg h0 k = some q) (hk : q.1 = kd) (hl : i < q.2.1) (h31 : i < 2147483648) (hw : xg q.2.2 i = some w) (hv : (kd = 14 ∧ v.1 = 2 ∧ w.1 = 2) ∨ ((kd = 13 ∨ kd = 15) ∧ v.1 = 0 ∧ w.1 = 0))
    (kk : cT G h0 n0 y d nx ls st (cup g k i (cstv kd v).2) cn sn Q) : cT G h0 n0 y d pc ls (v :: (0, (i : Int)) :: (4, (k : Int)) :: st) g cn sn Q :=
  cT_one hG hc id (fun lf _ => hdn lf _ _) (fun _ h => h) (fun _ u => cU_ast hG.1 hc he hq hk hl h31 hw hv u) kk
theorem cT_cpy (hG : cW sv cd mi df el eb G) (h00 : cH0 h0) {i : Nat} (hc : cC cd y (pc) (.invokestatic i, nx, tg, r1, r2)) (h8 : r2 = 8) {ka kb sp dp m : Nat} {qa qb : xcell} (hqa : xg h0 ka = some qa) (hqb : xg h0 kb = some qb) (hk : qa.1 = 13 ∨ qa.1 = 14) (hk2 : qb.1 = qa.1) (hs : sp + m ≤ qa.2.1) (hd : dp + m ≤ qb.2.1) (hw : cwds st ≤ 8) (hdp : 1 ≤ d)
    (kk : cT G h0 n0 y d nx ls st (ccp g ka kb sp dp m) cn sn Q) : cT G h0 n0 y d pc ls ((0, (m : Int)) :: (0, (dp : Int)) :: (4, (kb : Int)) :: (0, (sp : Int)) :: (4, (ka : Int)) :: st) g cn sn Q :=
  cT_one hG hc id (fun lf _ => by
    show cond (Nat.beq r2 8) _ _ = _
    rw [h8]; rfl) (fun _ h => h) (fun _ u => cU_cpy hG.1 h00 hc h8 hqa hqb hk hk2 hs hd hw hdp u) kk
theorem cT_call (hG : cW sv cd mi df el eb G) (hc : cC cd y pc (ins, nx, tg, r1, r2)) {inst virt : Bool} {d' : Nat} (he : ∀ (rec : xF) (lx : List (Nat × xv)) (sx : List xv) (h : xheap), xex mi df el eb rec ins nx tg r1 r2 y (d' + 1) pc lx sx [] h n0 cn sn = x_call mi rec nx r1 y (d' + 1) lx sx [] h n0 cn sn inst virt) (hdn : ∀ (lf : dlf) (sx : List cv) (g : cg), dnx h0 sv mi el eb ins nx tg r1 r2 pc lf sx g = d_call mi r1 inst sx)
    {q u : Nat × Nat × Nat × Nat × Nat × Nat} {args rest : List cv} (hq : xg mi y = some q) (hu : xg mi r1 = some u) (hp : cpop (cond inst (u.2.2.1 + 1) u.2.2.1) [] st = some (args, rest)) (hr : crcv h0 inst virt u.2.2.2.1 args)
    (hw : cwds rest ≤ 8) (ha : cwds args ≤ u.2.2.2.2.2) (hu1 : u.1 = 0) (hu2 : u.2.1 = 0) (hcn : cn ≤ q.1) (hsn : sn ≤ q.2.1) (hinst : args = [] → inst = false) {Q1 : cg → Option cv → Prop}
    (k1 : cT G h0 n0 r1 d' 0 (carg 0 args) [] g 0 0 Q1) (k2 : ∀ (g1 : cg) (rv : Option cv), Q1 g1 rv → cT G h0 n0 y (d' + 1) nx ls (cpsh rv rest) g1 cn sn Q) : cT G h0 n0 y (d' + 1) pc ls st g cn sn Q := by
  intro lf hl
  obtain ⟨o1, q1, ⟨f1, e1⟩, u1⟩ := k1 (darg 0 args) (darg_ok 0 args).1
  obtain ⟨o2, q2, ⟨f2, e2⟩, u2⟩ := k2 o1.1 o1.2 q1 lf hl
  refine ⟨o2, q2, ⟨max f1 f2 + 1, ?_⟩, cU_call (Q1 := fun g' r => g' = o1.1 ∧ r = o1.2) hG.1 hc he hq hu hp hr hw ha hu1 hu2 hcn hsn hinst u1 (fun g1 rv hq => ?_)⟩
  · rw [hG.2 h0] at e1 e2 ⊢
    rw [dv_at hc]
    dsimp only
    rw [hdn lf]
    have ec : d_call mi r1 inst st = some (.inr (.inr (args, rest))) := by
      unfold d_call
      rw [hu]
      dsimp only
      rw [hp]
    rw [ec]
    show (match dv cd h0 sv mi el eb (max f1 f2) r1 0 (darg 0 args) [] g with
      | none => none
      | some o => dv cd h0 sv mi el eb (max f1 f2) y nx lf (cpsh o.2 rest) o.1) = some o2
    rw [dv_mono (Nat.le_max_left f1 f2) e1]
    exact dv_mono (Nat.le_max_right f1 f2) e2
  · obtain ⟨a, b⟩ := hq
    rw [a, b]
    exact u2
theorem cT_ret (hG : cW sv cd mi df el eb G) (hc : cC cd y pc (.return_, nx, tg, r1, r2)) {q : Nat × Nat × Nat × Nat × Nat × Nat} (hq : xg mi y = some q) (h0' : q.2.2.2.2.1 = 0) (k : Q g none) : cT G h0 n0 y d pc ls [] g cn sn Q :=
  fun lf _ => ⟨(g, none), k, ⟨1, by rw [hG.2 h0, dv_at hc]; rfl⟩, cU_ret hG.1 hc hq h0' ⟨rfl, rfl⟩⟩
theorem cT_iret (hG : cW sv cd mi df el eb G) (hc : cC cd y pc (.ireturn, nx, tg, r1, r2)) {q : Nat × Nat × Nat × Nat × Nat × Nat} {v : cv} (hq : xg mi y = some q) (hv : v.1 = 0) (hr : xrok q.2.2.2.2.1 (cenc v) = true) (k : Q g (some v)) : cT G h0 n0 y d pc ls [v] g cn sn Q := by
  obtain ⟨t, z⟩ := v
  have hv : t = 0 := hv
  subst hv
  exact fun lf _ => ⟨(g, some (0, z)), k, ⟨1, by rw [hG.2 h0, dv_at hc]; rfl⟩, cU_iret hG.1 hc hq hr ⟨rfl, rfl⟩⟩
theorem cT_lret (hG : cW sv cd mi df el eb G) (hc : cC cd y pc (.lreturn, nx, tg, r1, r2)) {q : Nat × Nat × Nat × Nat × Nat × Nat} {v : cv} (hq : xg mi y = some q) (h2 : q.2.2.2.2.1 = 2) (hv : v.1 = 2) (k : Q g (some v)) : cT G h0 n0 y d pc ls [v] g cn sn Q := by
  obtain ⟨t, z⟩ := v
  have hv : t = 2 := hv
  subst hv
  exact fun lf _ => ⟨(g, some (2, z)), k, ⟨1, by rw [hG.2 h0, dv_at hc]; rfl⟩, cU_lret hG.1 hc hq h2 rfl ⟨rfl, rfl⟩⟩
theorem cT_drop (hG : cW sv cd mi df el eb G) (hs : ∀ q ∈ ls', q ∈ ls) (k : cT G h0 n0 y d pc ls' st g cn sn Q) : cT G h0 n0 y d pc ls st g cn sn Q := by
  intro lf hl
  obtain ⟨o, q, e, u⟩ := k lf (fun x hx => hl x (hs x hx))
  exact ⟨o, q, e, cU_drop hG.1 hs u⟩
end RunD
