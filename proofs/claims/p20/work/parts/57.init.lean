/-! Runs that never look at the script's length hold for every length; both constructors, run -/
noncomputable def xnx (ins : Instr) (st : List xv) : Bool := match ins with
  | .arraylength => (match st with
    | [] => true
    | w :: _ => !(Nat.beq w.1 6 && Nat.beq w.2 0))
  | _ => true
noncomputable def xstepN (cd : xcd) (mi : xmi) (df : xdf) (ec : Nat → Nat) (eb : Nat → List Nat) (rec : xF) : xF := fun y d pc ls st bx h n c s =>
  match xg cd y with
  | none => none
  | some t => match xg t pc with
    | none => none
    | some e => cond (xnx e.1 st) (xex mi df ec eb rec e.1 e.2.1 e.2.2.1 e.2.2.2.1 e.2.2.2.2 y d pc ls st bx h n c s) none
noncomputable def xrunN (cd : xcd) (mi : xmi) (df : xdf) (ec : Nat → Nat) (eb : Nat → List Nat) (f : Nat) : xF :=
  Nat.rec (motive := fun _ => xF) (fun _ _ _ _ _ _ _ _ _ _ => none) (fun _ r => xstepN cd mi df ec eb r) f
section N
variable {mi : xmi} {df : xdf} {el ec : Nat → Nat} {eb : Nat → List Nat} {rec : xF} {nx tg r1 r2 y d pc n c s : Nat} {ls : List (Nat × xv)} {st : List xv} {bx : xbox} {h : xheap} {M : List xleaf}
def xsml (ec el : Nat → Nat) : Prop := ec 0 = 0 ∧ ∀ k : Nat, k ≠ 0 → ec k = el k
theorem x_len_N (hE : xsml ec el) (hn : xnx .arraylength st = true) (hx : x_len ec rec nx y d ls st bx h n c s = some M) : x_len el rec nx y d ls st bx h n c s = some M := by
  cases st with
  | nil => exact (xnos hx).elim
  | cons w r =>
    have hn : (!(Nat.beq w.1 6 && Nat.beq w.2 0)) = true := hn
    unfold x_len at hx ⊢
    dsimp only at hx ⊢
    cases h4 : Nat.beq w.1 4 with
    | true => rw [h4] at hx; exact hx
    | false =>
      rw [h4] at hx
      simp only [cond_false] at hx ⊢
      obtain ⟨h5, h6⟩ := xcnd hx
      rw [h5]
      by_cases e : w.2 = 0
      · obtain ⟨h7, -⟩ := xand h5
        rw [h7, e] at hn
        cases hn
      · rw [← hE.2 _ e]
        exact h6
theorem x_ix_N {i : xv} {k k' : Nat → xR} (hk : ∀ x, k x = some M → k' x = some M) (hx : x_ix rec y d pc ls st bx h n c s i k = some M) : x_ix rec y d pc ls st bx h n c s i k' = some M := by
  unfold x_ix at hx ⊢
  cases hc : xci bx i with
  | none => rw [hc] at hx; exact hx
  | some x =>
    rw [hc] at hx
    dsimp only at hx ⊢
    obtain ⟨h1, h2⟩ := xcnd hx
    rw [h1]
    exact hk x h2
theorem x_ald_N (hE : xsml ec el) {kd : Nat} (hx : x_ald ec eb rec nx y d pc ls st bx h n c s kd = some M) : x_ald el eb rec nx y d pc ls st bx h n c s kd = some M := by
  match st, hx with
  | [], hx => exact (xnos hx).elim
  | [_], hx => exact (xnos hx).elim
  | i :: w :: r, hx =>
    unfold x_ald at hx ⊢
    dsimp only at hx ⊢
    refine x_ix_N (fun x hx => ?_) hx
    cases hb : Nat.beq w.1 4 with
    | true => rw [hb] at hx; exact hx
    | false =>
      rw [hb, hE.1, show Nat.blt x 0 = false from rfl] at hx
      simp only [cond_false, Bool.and_false] at hx ⊢
      obtain ⟨h5, h6⟩ := xcnd hx
      obtain ⟨a1, a2⟩ := xand h5
      obtain ⟨a3, a4⟩ := xand a1
      obtain ⟨a5, a6⟩ := xand a3
      have e : w.2 ≠ 0 := by
        intro e
        rw [e] at a6
        cases a6
      rw [show Nat.beq w.2 0 = false from by
        cases hz : Nat.beq w.2 0 with
        | false => rfl
        | true => exact absurd (xeqb hz) e]
      simp only [Bool.and_false, Bool.false_and, cond_false]
      rw [← hE.2 _ e, h5]
      exact h6
theorem xex_N (hE : xsml ec el) {ins : Instr} (hn : xnx ins st = true) (hx : xex mi df ec eb rec ins nx tg r1 r2 y d pc ls st bx h n c s = some M) : xex mi df el eb rec ins nx tg r1 r2 y d pc ls st bx h n c s = some M := by
  cases ins
  case arraylength => exact x_len_N hE hn hx
  case iaload => exact x_ald_N hE hx
  case laload => exact x_ald_N hE hx
  case baload => exact x_ald_N hE hx
  case aaload => exact x_ald_N hE hx
  all_goals exact hx
end N
section N2
variable {l : Launch} {D : va_G} {cl : List vw_C} {A : Nat → Prop} {sv : Nat → Int32} {ex : Nat → Nat} {el ec : Nat → Nat} {eb : Nat → List Nat} {nest : List (String × Nat × MethodName × String)} {txt : Nat → String × Nat × String} {ovr : List String}
variable {cd : xcd} {mi : xmi} {df : xdf} {bys : Nat → ByteArray} {nm : Nat → MethodName} {rtt : Nat → Option FieldType} {gw : List Cond}
theorem xstepN_le (hE : xsml ec el) {rec : xF} {y d pc : Nat} {ls : List (Nat × xv)} {st : List xv} {bx : xbox} {h : xheap} {n c s : Nat} {L : List xleaf} (hx : xstepN cd mi df ec eb rec y d pc ls st bx h n c s = some L) : xstep cd mi df el eb rec y d pc ls st bx h n c s = some L := by
  unfold xstepN at hx
  unfold xstep
  cases h1 : xg cd y with
  | none => rw [h1] at hx; exact (xnos hx).elim
  | some t =>
    rw [h1] at hx
    dsimp only at hx ⊢
    cases h2 : xg t pc with
    | none => rw [h2] at hx; exact (xnos hx).elim
    | some e =>
      rw [h2] at hx
      dsimp only at hx ⊢
      obtain ⟨h3, h4⟩ := xcnd hx
      exact xex_N hE h3 h4
theorem xrunN_snd (hE : xsml ec el) (hgw : xGood gw) (hOK : xOK cl nest txt ovr cd mi df bys nm rtt gw) : ∀ f : Nat, xSnd l D cl A sv ex el eb nest txt ovr mi bys nm rtt gw (xrunN cd mi df ec eb f)
  | 0 => fun _ _ _ _ _ _ _ _ _ _ _ hx => (xnos hx).elim
  | f + 1 => fun y d pc ls st bx h n c s L hx => xstep_snd hgw hOK (xrunN_snd hE hgw hOK f) y d pc ls st bx h n c s L (xstepN_le hE hx)
end N2
theorem xel_sml {L : Nat} : xsml (xel 0) (xel L) := ⟨rfl, fun k hk => by
  match k, hk with
  | 0, hk => exact absurd rfl hk
  | 1, _ => rfl
  | 2, _ => rfl
  | 3, _ => rfl
  | 4, _ => rfl
  | _ + 5, _ => rfl⟩
/-! equality of heaps by computing -/
def xeqt {α : Type} (f : α → α → Bool) : Lean.RArray (Nat × α) → Lean.RArray (Nat × α) → Bool
  | .leaf q, .leaf r => Nat.beq q.1 r.1 && f q.2 r.2
  | .branch p a b, .branch p' a' b' => Nat.beq p p' && (xeqt f a a' && xeqt f b b')
  | .leaf _, .branch _ _ _ => false
  | .branch _ _ _, .leaf _ => false
theorem xeqt_ok {α : Type} {f : α → α → Bool} (hf : ∀ x y, f x y = true → x = y) : ∀ a b : Lean.RArray (Nat × α), xeqt f a b = true → a = b
  | .leaf (i, v), .leaf (j, w), h => by
    obtain ⟨h1, h2⟩ := xand (show (Nat.beq i j && f v w) = true from h)
    rw [xeqb h1, hf _ _ h2]
  | .branch p a b, .branch p' a' b', h => by
    obtain ⟨h1, h2⟩ := xand (show (Nat.beq p p' && (xeqt f a a' && xeqt f b b')) = true from h)
    obtain ⟨h3, h4⟩ := xand h2
    rw [xeqb h1, xeqt_ok hf a a' h3, xeqt_ok hf b b' h4]
  | .leaf _, .branch _ _ _, h => by cases h
  | .branch _ _ _, .leaf _, h => by cases h
def xeqv (x y : xv) : Bool := Nat.beq x.1 y.1 && Nat.beq x.2 y.2
theorem xeqv_ok (x y : xv) (h : xeqv x y = true) : x = y := by
  obtain ⟨h1, h2⟩ := xand h
  obtain ⟨a, b⟩ := x
  obtain ⟨a', b'⟩ := y
  have e1 : a = a' := xeqb h1
  have e2 : b = b' := xeqb h2
  subst e1; subst e2; rfl
def xeqc (x y : xcell) : Bool := Nat.beq x.1 y.1 && (Nat.beq x.2.1 y.2.1 && xeqt xeqv x.2.2 y.2.2)
theorem xeqc_ok (x y : xcell) (h : xeqc x y = true) : x = y := by
  obtain ⟨h1, h2⟩ := xand h
  obtain ⟨h3, h4⟩ := xand h2
  obtain ⟨a, b, c⟩ := x
  obtain ⟨a', b', c'⟩ := y
  have e1 : a = a' := xeqb h1
  have e2 : b = b' := xeqb h3
  have e3 : c = c' := xeqt_ok xeqv_ok _ _ h4
  subst e1; subst e2; subst e3; rfl
noncomputable def xh0 : xheap := xmk (99, 0, .leaf (0, (5, 0))) 10 0 512
noncomputable def xr1_ : xR := xsK xh0 0 (11, 18, xo_11) (fun h => xrunN xcode xmeth xobj (xel 0) xeb 9800 1 13 0 [(0, (4, 0))] [] [] h 1 0 0)
noncomputable def xr2_ (h1 : xheap) : xR := xsK h1 253 (12, 40, xo_12) (fun h => xrunN xcode xmeth xobj (xel 0) xeb 9800 20 13 0 [(0, (4, 253))] [] [] h 254 0 0)
noncomputable def xini1 (q : xleaf) : Bool := (match q.2.2.2 with
    | none => true
    | some _ => false) && anl q.1
noncomputable def xinit : Bool :=
  match xr1_ with
  | some [q] => xini1 q && (Nat.beq q.2.2.1 253 && ((match xg q.2.1 253 with
    | none => false
    | some _ => true) &&
      (match xr2_ q.2.1 with
        | some [r] => xini1 r && (Nat.beq r.2.2.1 270 && xeqt xeqc r.2.1 xh2)
        | _ => false)))
  | _ => false
noncomputable def xh1 : xheap := match xr1_ with
  | some [q] => q.2.1
  | _ => xh0
theorem xini1_ok {q : xleaf} {k : Nat} (h : xini1 q = true) (hk : Nat.beq q.2.2.1 k = true) : q = ([], q.2.1, k, none) := by
  obtain ⟨q1, q2, q3, q4⟩ := q
  obtain ⟨h1, h2⟩ := xand h
  have a1 : q1 = [] := anil h2
  have a2 : q3 = k := xeqb hk
  have a3 : q4 = none := by
    cases q4 with
    | none => rfl
    | some w => cases h1
  subst a1; subst a2; subst a3; rfl
theorem xinit_ok (h : xinit = true) : xr1_ = some [([], xh1, 253, none)] ∧ (∃ q, xg xh1 253 = some q) ∧ xr2_ xh1 = some [([], xh2, 270, none)] := by
  unfold xinit at h
  split at h
  · rename_i q hq
    have e1 : xh1 = q.2.1 := by unfold xh1; rw [hq]
    obtain ⟨h1, h2⟩ := xand h
    obtain ⟨h5, h6⟩ := xand h2
    obtain ⟨h7, h8⟩ := xand h6
    split at h8
    · rename_i r hr
      obtain ⟨g1, g2⟩ := xand h8
      obtain ⟨g5, g6⟩ := xand g2
      have a5 : r.2.1 = xh2 := xeqt_ok xeqc_ok _ _ g6
      rw [e1]
      refine ⟨by rw [hq]; exact congrArg (fun z => some [z]) (xini1_ok h1 h5), ?_, ?_⟩
      · cases hx : xg q.2.1 253 with
        | none => rw [hx] at h7; cases h7
        | some w => exact ⟨w, rfl⟩
      · rw [hr, ← a5]
        exact congrArg (fun z => some [z]) (xini1_ok g1 g5)
    · cases h8
  · cases h
set_option maxRecDepth 100000 in
theorem xinit_t : xinit = true := by decide +kernel
section Law
variable {l : Launch} {D : va_G} {A : Nat → Prop} {sv : Nat → Int32} {ex : Nat → Nat} {L : Nat} {M : List xleaf}
abbrev xXG (l : Launch) (D : va_G) (A : Nat → Prop) (sv : Nat → Int32) (ex : Nat → Nat) (L : Nat) : xG0 :=
  xGo l D vwCl A sv ex (xel L) xeb xnest xtxt xovr xmeth xby xnm xrtt xgw
noncomputable def xorc (l : Launch) (D : va_G) (A : Nat → Prop) (sv : Nat → Int32) (ex : Nat → Nat) (L : Nat) (M : List xleaf) : xF := fun y d pc ls st bx h n c s => match y with
  | 0 => @ite xR (xXG l D A sv ex L 0 d pc ls st bx h n c s M) (Classical.propDecidable _) (some M) none
  | z + 1 => xrunN xcode xmeth xobj (xel 0) xeb 9800 (z + 1) d pc ls st bx h n c s
theorem xorc_at {d pc : Nat} {ls : List (Nat × xv)} {st : List xv} {bx : xbox} {h : xheap} {n cn sn : Nat} (hg : xXG l D A sv ex L 0 d pc ls st bx h n cn sn M) : xorc l D A sv ex L M 0 d pc ls st bx h n cn sn = some M := if_pos hg
theorem xorc_snd : xSnd l D vwCl A sv ex (xel L) xeb xnest xtxt xovr xmeth xby xnm xrtt xgw (xorc l D A sv ex L M) := by
  intro y d pc ls st bx h n cn sn L' hx
  cases y with
  | zero =>
    have hx : @ite xR (xXG l D A sv ex L 0 d pc ls st bx h n cn sn M) (Classical.propDecidable _) (some M) none = some L' := hx
    by_cases hg : xXG l D A sv ex L 0 d pc ls st bx h n cn sn M
    · rw [if_pos hg] at hx
      cases hx
      exact hg
    · rw [if_neg hg] at hx
      cases hx
  | succ z => exact xrunN_snd xel_sml xgw_good xTab 9800 (z + 1) d pc ls st bx h n cn sn L' hx
theorem xcode0 : xg xcode 0 = some xt_0 := rfl
theorem xbk {d pc : Nat} {ls : List (Nat × xv)} {st : List xv} {bx : xbox} {h : xheap} {n cn sn : Nat} {e1 : xins} (he : xg xt_0 pc = some e1) (hx : xex xmeth xobj (xel L) xeb (xorc l D A sv ex L M) e1.1 e1.2.1 e1.2.2.1 e1.2.2.2.1 e1.2.2.2.2 0 d pc ls st bx h n cn sn = some M) : xXG l D A sv ex L 0 d pc ls st bx h n cn sn M := by
  refine xstep_snd xgw_good xTab (xorc_snd (L := L) (M := M)) 0 d pc ls st bx h n cn sn M ?_
  unfold xstep
  rw [xcode0]
  dsimp only
  rw [he]
  exact hx
/-- new -/
theorem xbk_new {pc nx k N cn' sn' : Nat} {ls : List (Nat × xv)} {st : List xv} {bx : xbox} {h : xheap} {n cn sn i tg r2 : Nat} {t : xct} {q0 : xcell} (he : xg xt_0 pc = some (.new i, nx, tg, k, r2)) (ho : xg xobj k = some (N, t)) (hq : xg h n = some q0) (hc : cn + 1 = cn') (hs : sn + N = sn') (hc2 : cn < 600000) (hs2 : sn + N ≤ 7302250)
    (hg : xXG l D A sv ex L 0 14 nx ls ((4, n) :: st) bx (xw h n (k, N, t)) (n + 1) cn' sn' M) : xXG l D A sv ex L 0 14 pc ls st bx h n cn sn M := by
  subst hc; subst hs
  refine xbk he ?_
  show x_new xmeth xobj (xorc l D A sv ex L M) nx k 0 14 ls st bx h n cn sn = some M
  unfold x_new
  rw [ho]
  show x_cell xmeth (xorc l D A sv ex L M) nx 0 14 ls bx h n cn sn k N t st = some M
  unfold x_cell
  rw [show xg xmeth 0 = some (600000, 7302250, 1, 99, 3, 4) from rfl]
  dsimp only
  rw [show Nat.blt cn 600000 = true from Nat.ble_eq_true_of_le hc2, show Nat.ble (sn + N) 7302250 = true from Nat.ble_eq_true_of_le hs2, hq]
  simp only [Bool.and_self, cond_true]
  rw [xsK_eq, xfrc_eq, xfrc_eq, xfrc_eq]
  exact xorc_at hg
/-- a constructor -/
theorem xbk_ini {pc nx z u1 u2 kc rt ml i tg cn' sn' n' a : Nat} {ls : List (Nat × xv)} {st : List xv} {bx bx' : xbox} {h h' : xheap} {n cn sn : Nat} (he : xg xt_0 pc = some (.invokespecial i, nx, tg, z + 1, 0)) (hu : xg xmeth (z + 1) = some (u1, u2, 0, kc, rt, ml)) (hml : 1 ≤ ml) (hst : xwds st ≤ 8) (hc : cn + u1 = cn') (hs : sn + u2 = sn') (hc2 : cn' ≤ 600000) (hs2 : sn' ≤ 7302250)
    (hr : xrunN xcode xmeth xobj (xel 0) xeb 9800 (z + 1) 13 0 [(0, (4, a))] [] bx h n 0 0 = some [(bx', h', n', none)])
    (hg : xXG l D A sv ex L 0 14 nx ls st bx' h' n' cn' sn' M) : xXG l D A sv ex L 0 14 pc ls ((4, a) :: st) bx h n cn sn M := by
  subst hc; subst hs
  refine xbk he ?_
  show x_call xmeth (xorc l D A sv ex L M) nx (z + 1) 0 14 ls ((4, a) :: st) bx h n cn sn true false = some M
  unfold x_call
  rw [hu]
  show x_go xmeth (xorc l D A sv ex L M) nx 0 14 ls bx h n cn sn (z + 1) [(4, a)] st = some M
  unfold x_go
  dsimp only
  rw [show xg xmeth 0 = some (600000, 7302250, 1, 99, 3, 4) from rfl, hu]
  dsimp only
  rw [show Nat.ble (xwds st) 8 = true from Nat.ble_eq_true_of_le hst, show Nat.ble (xwds [((4, a) : xv)]) ml = true from Nat.ble_eq_true_of_le hml, show Nat.ble (cn + u1) 600000 = true from Nat.ble_eq_true_of_le hc2, show Nat.ble (sn + u2) 7302250 = true from Nat.ble_eq_true_of_le hs2]
  simp only [Bool.and_self, cond_true]
  rw [show xorc l D A sv ex L M (z + 1) 13 0 (xarg 0 [((4, a) : xv)]) [] bx h n 0 0 = some [(bx', h', n', none)] from hr]
  dsimp only
  rw [xfrc_eq, xfrc_eq]
  show xapp (xorc l D A sv ex L M 0 14 nx ls st bx' h' n' (cn + u1) (sn + u2)) (some []) = some M
  rw [xorc_at hg]
  show some (M ++ []) = some M
  rw [List.append_nil]
/-- from the law's first instruction to its loop -/
theorem xlaw0 (hg : xXG l D A sv ex L 0 14 18 [(3, (0, 0)), (2, (4, 253)), (1, (4, 0)), (0, (6, 0))] [] [] xh2 270 270 13086 M) : xXG l D A sv ex L 0 14 0 [(0, (6, 0))] [] [] xh0 0 0 0 M := by
  obtain ⟨h1, ⟨q1, hq1⟩, h2⟩ := xinit_ok xinit_t
  unfold xr1_ at h1
  unfold xr2_ at h2
  rw [xsK_eq] at h1 h2
  have g17 : xXG l D A sv ex L 0 14 17 [(2, (4, 253)), (1, (4, 0)), (0, (6, 0))] [(0, 0)] [] xh2 270 270 13086 M := xbk (pc := 17) rfl (xorc_at hg)
  have g16 : xXG l D A sv ex L 0 14 16 [(2, (4, 253)), (1, (4, 0)), (0, (6, 0))] [] [] xh2 270 270 13086 M := xbk (pc := 16) rfl (xorc_at g17)
  have g15 : xXG l D A sv ex L 0 14 15 [(1, (4, 0)), (0, (6, 0))] [(4, 253)] [] xh2 270 270 13086 M := xbk (pc := 15) rfl (xorc_at g16)
  have g12 : xXG l D A sv ex L 0 14 12 [(1, (4, 0)), (0, (6, 0))] [(4, 253), (4, 253)] [] (xw xh1 253 (12, 40, xo_12)) 254 254 5502 M := xbk_ini (pc := 12) (z := 19) rfl rfl (by decide) (by decide) rfl rfl (by decide) (by decide) h2 g15
  have g11 : xXG l D A sv ex L 0 14 11 [(1, (4, 0)), (0, (6, 0))] [(4, 253)] [] (xw xh1 253 (12, 40, xo_12)) 254 254 5502 M := xbk (pc := 11) rfl (xorc_at g12)
  have g8 : xXG l D A sv ex L 0 14 8 [(1, (4, 0)), (0, (6, 0))] [] [] xh1 253 253 5462 M := xbk_new (pc := 8) rfl rfl hq1 rfl rfl (by decide) (by decide) g11
  have g7 : xXG l D A sv ex L 0 14 7 [(0, (6, 0))] [(4, 0)] [] xh1 253 253 5462 M := xbk (pc := 7) rfl (xorc_at g8)
  have g4 : xXG l D A sv ex L 0 14 4 [(0, (6, 0))] [(4, 0), (4, 0)] [] (xw xh0 0 (11, 18, xo_11)) 1 1 18 M := xbk_ini (pc := 4) (z := 0) rfl rfl (by decide) (by decide) rfl rfl (by decide) (by decide) h1 g7
  have g3 : xXG l D A sv ex L 0 14 3 [(0, (6, 0))] [(4, 0)] [] (xw xh0 0 (11, 18, xo_11)) 1 1 18 M := xbk (pc := 3) rfl (xorc_at g4)
  exact xbk_new (pc := 0) rfl rfl (xmk_get _ 10 0 512 0 (by decide) (by decide) (by decide)) rfl rfl (by decide) (by decide) g3
end Law
