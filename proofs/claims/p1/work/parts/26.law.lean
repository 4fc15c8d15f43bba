/-! The law: its start, its switch, its end -/
def xtg : List Nat := [276, 289, 303, 317, 360, 433, 467, 530, 593, 616, 639, 662, 685, 708, 741, 774, 797, 830, 863, 916, 969, 1022, 1065, 1118, 1171, 1214, 1237, 1270, 1303, 1326, 1359, 1392, 1425, 1474, 1533, 1556, 1579, 1602, 1625, 1658, 1711, 1734, 1767, 1790, 1823, 1856, 1869, 1882, 1895, 1928, 1951, 1984, 2017, 2040, 2063, 2096, 2109]
theorem xgood_ok {r : xR} (h : xgood r = true) : ∃ M, r = some M ∧ ∀ q ∈ M, q.2.2.2 = some (0, 1) := by
  unfold xgood at h
  cases r with
  | none => cases h
  | some M =>
    refine ⟨M, rfl, fun q hq => ?_⟩
    have h1 := List.all_eq_true.mp h q hq
    cases hw : q.2.2.2 with
    | none => rw [hw] at h1; cases h1
    | some w =>
      rw [hw] at h1
      obtain ⟨h2, h3⟩ := xand h1
      obtain ⟨a, b⟩ := w
      have e1 : a = 0 := xeqb h2
      have e2 : b = 1 := xeqb h3
      subst e1; subst e2; rfl
theorem xcs_all : ∀ k, k < 57 → xgood (xcs (xtg.getD k 0)) = true
  | 0, _ => xck_0
  | 1, _ => xck_1
  | 2, _ => xck_2
  | 3, _ => xck_3
  | 4, _ => xck_4
  | 5, _ => xck_5
  | 6, _ => xck_6
  | 7, _ => xck_7
  | 8, _ => xck_8
  | 9, _ => xck_9
  | 10, _ => xck_10
  | 11, _ => xck_11
  | 12, _ => xck_12
  | 13, _ => xck_13
  | 14, _ => xck_14
  | 15, _ => xck_15
  | 16, _ => xck_16
  | 17, _ => xck_17
  | 18, _ => xck_18
  | 19, _ => xck_19
  | 20, _ => xck_20
  | 21, _ => xck_21
  | 22, _ => xck_22
  | 23, _ => xck_23
  | 24, _ => xck_24
  | 25, _ => xck_25
  | 26, _ => xck_26
  | 27, _ => xck_27
  | 28, _ => xck_28
  | 29, _ => xck_29
  | 30, _ => xck_30
  | 31, _ => xck_31
  | 32, _ => xck_32
  | 33, _ => xck_33
  | 34, _ => xck_34
  | 35, _ => xck_35
  | 36, _ => xck_36
  | 37, _ => xck_37
  | 38, _ => xck_38
  | 39, _ => xck_39
  | 40, _ => xck_40
  | 41, _ => xck_41
  | 42, _ => xck_42
  | 43, _ => xck_43
  | 44, _ => xck_44
  | 45, _ => xck_45
  | 46, _ => xck_46
  | 47, _ => xck_47
  | 48, _ => xck_48
  | 49, _ => xck_49
  | 50, _ => xck_50
  | 51, _ => xck_51
  | 52, _ => xck_52
  | 53, _ => xck_53
  | 54, _ => xck_54
  | 55, _ => xck_55
  | 56, _ => xck_56
  | _ + 57, h => absurd h (by omega)
noncomputable def xLk (t : Nat) : List xleaf := (xcs t).getD []
noncomputable def xL6 : List xleaf := xLk 2122 ++ (List.range 57).flatMap (fun k => xLk (xtg.getD k 0))
theorem xLk_ok {t : Nat} (h : xgood (xcs t) = true) : xcs t = some (xLk t) ∧ ∀ q ∈ xLk t, q.2.2.2 = some (0, 1) := by
  obtain ⟨M, h1, h2⟩ := xgood_ok h
  unfold xLk
  rw [h1]
  exact ⟨rfl, h2⟩
theorem xL6_ok : ∀ q ∈ xL6, q.2.2.2 = some (0, 1) := by
  intro q hq
  rcases List.mem_append.mp hq with h | h
  · exact (xLk_ok xck_57).2 q h
  · obtain ⟨k, h1, h2⟩ := List.mem_flatMap.mp h
    exact (xLk_ok (xcs_all k (List.mem_range.mp h1))).2 q h2
section Law
variable {l : Launch} {D : va_G} {A : Nat → Prop} {sv : Nat → Int32} {ex : Nat → Nat} {L : Nat} {M : List xleaf}
abbrev xXG (l : Launch) (D : va_G) (A : Nat → Prop) (sv : Nat → Int32) (ex : Nat → Nat) (L : Nat) (y d pc : Nat) (ls : List (Nat × xv)) (st : List xv) (bx : xbox) (h : xheap) (n cn sn : Nat) (M : List xleaf) : Prop :=
  xGo l D vwCl A sv ex (xel L) xeb xnest xtxt xovr xmeth xby xnm xrtt xgw y d pc ls st bx h n cn sn M
theorem xXG_mono {y d pc : Nat} {ls : List (Nat × xv)} {st : List xv} {bx : xbox} {h : xheap} {n cn sn : Nat} {M' : List xleaf} (hg : xXG l D A sv ex L y d pc ls st bx h n cn sn M) (hs : ∀ q ∈ M, q ∈ M') : xXG l D A sv ex L y d pc ls st bx h n cn sn M' := by
  intro p e R s m args below meth c Q as ws H locs la stv h1 h2 h3 h4 h5 h6
  exact hg p e R s m args below meth c Q as ws H locs la stv h1 h2 h3 h4 h5 (fun q hq => h6 q (hs q hq))
theorem xXG_run {f y d pc : Nat} {ls : List (Nat × xv)} {st : List xv} {bx : xbox} {h : xheap} {n cn sn : Nat} (hr : xrun xcode xmeth xobj (xel L) xeb f y d pc ls st bx h n cn sn = some M) : xXG l D A sv ex L y d pc ls st bx h n cn sn M :=
  xrun_snd xgw_good xTab f y d pc ls st bx h n cn sn M hr
noncomputable def xorc (l : Launch) (D : va_G) (A : Nat → Prop) (sv : Nat → Int32) (ex : Nat → Nat) (L : Nat) (M : List xleaf) : xF := fun y d pc ls st bx h n c s => match y with
  | 0 => @ite xR (xXG l D A sv ex L 0 d pc ls st bx h n c s M) (Classical.propDecidable _) (some M) none
  | z + 1 => xrun xcode xmeth xobj (xel L) xeb 9800 (z + 1) d pc ls st bx h n c s
theorem xorc_at {d pc : Nat} {ls : List (Nat × xv)} {st : List xv} {bx : xbox} {h : xheap} {n cn sn : Nat} (hg : xXG l D A sv ex L 0 d pc ls st bx h n cn sn M) : xorc l D A sv ex L M 0 d pc ls st bx h n cn sn = some M := if_pos hg
theorem xorc_snd : xSnd l D vwCl A sv ex (xel L) xeb xnest xtxt xovr xmeth xby xnm xrtt xgw (xorc l D A sv ex L M) := by
  intro y d pc ls st bx h n cn sn L' hx
  cases y with
  | zero =>
    have hx : @ite xR (xXG l D A sv ex L 0 d pc ls st bx h n cn sn M) (Classical.propDecidable _) (some M) none = some L' := hx
    by_cases hg : xXG l D A sv ex L 0 d pc ls st bx h n cn sn M
    · rw [if_pos hg] at hx
      cases hx
      exact hg
    · rw [if_neg hg] at hx
      cases hx
  | succ z => exact xrun_snd xgw_good xTab 9800 (z + 1) d pc ls st bx h n cn sn L' hx
theorem xcode0 : xg xcode 0 = some xt_0 := rfl
theorem xbk {d pc : Nat} {ls : List (Nat × xv)} {st : List xv} {bx : xbox} {h : xheap} {n cn sn : Nat} {e1 : xins} (he : xg xt_0 pc = some e1) (hx : xex xmeth xobj (xel L) xeb (xorc l D A sv ex L M) e1.1 e1.2.1 e1.2.2.1 e1.2.2.2.1 e1.2.2.2.2 0 d pc ls st bx h n cn sn = some M) : xXG l D A sv ex L 0 d pc ls st bx h n cn sn M := by
  refine xstep_snd xgw_good xTab (xorc_snd (L := L) (M := M)) 0 d pc ls st bx h n cn sn M ?_
  unfold xstep
  rw [xcode0]
  dsimp only
  rw [he]
  exact hx
/-- new -/
theorem xbk_new {pc nx k N cn' sn' : Nat} {ls : List (Nat × xv)} {st : List xv} {bx : xbox} {h : xheap} {n cn sn i tg r2 : Nat} {t : xct} {q0 : xcell} (he : xg xt_0 pc = some (.new i, nx, tg, k, r2)) (ho : xg xobj k = some (N, t)) (hq : xg h n = some q0) (hc : cn + 1 = cn') (hs : sn + N = sn') (hc2 : cn < 600000) (hs2 : sn + N ≤ 7302250)
    (hg : xXG l D A sv ex L 0 7 nx ls ((4, n) :: st) bx (xw h n (k, N, t)) (n + 1) cn' sn' M) : xXG l D A sv ex L 0 7 pc ls st bx h n cn sn M := by
  subst hc; subst hs
  refine xbk he ?_
  show x_new xmeth xobj (xorc l D A sv ex L M) nx k 0 7 ls st bx h n cn sn = some M
  unfold x_new
  rw [ho]
  show x_cell xmeth (xorc l D A sv ex L M) nx 0 7 ls bx h n cn sn k N t st = some M
  unfold x_cell
  rw [show xg xmeth 0 = some (600000, 7302250, 1, 99, 3, 4) from rfl]
  dsimp only
  rw [show Nat.blt cn 600000 = true from Nat.ble_eq_true_of_le hc2, show Nat.ble (sn + N) 7302250 = true from Nat.ble_eq_true_of_le hs2, hq]
  simp only [Bool.and_self, cond_true]
  rw [xsK_eq, xfrc_eq, xfrc_eq, xfrc_eq]
  exact xorc_at hg
/-- a constructor -/
theorem xbk_ini {pc nx z u1 u2 kc rt ml i tg cn' sn' n' a : Nat} {ls : List (Nat × xv)} {st : List xv} {bx bx' : xbox} {h h' : xheap} {n cn sn : Nat} (he : xg xt_0 pc = some (.invokespecial i, nx, tg, z + 1, 0)) (hu : xg xmeth (z + 1) = some (u1, u2, 0, kc, rt, ml)) (hml : 1 ≤ ml) (hst : xwds st ≤ 8) (hc : cn + u1 = cn') (hs : sn + u2 = sn') (hc2 : cn' ≤ 600000) (hs2 : sn' ≤ 7302250)
    (hr : xrun xcode xmeth xobj (xel L) xeb 9800 (z + 1) 6 0 [(0, (4, a))] [] bx h n 0 0 = some [(bx', h', n', none)])
    (hg : xXG l D A sv ex L 0 7 nx ls st bx' h' n' cn' sn' M) : xXG l D A sv ex L 0 7 pc ls ((4, a) :: st) bx h n cn sn M := by
  subst hc; subst hs
  refine xbk he ?_
  show x_call xmeth (xorc l D A sv ex L M) nx (z + 1) 0 7 ls ((4, a) :: st) bx h n cn sn true false = some M
  unfold x_call
  rw [hu]
  show x_go xmeth (xorc l D A sv ex L M) nx 0 7 ls bx h n cn sn (z + 1) [(4, a)] st = some M
  unfold x_go
  dsimp only
  rw [show xg xmeth 0 = some (600000, 7302250, 1, 99, 3, 4) from rfl, hu]
  dsimp only
  rw [show Nat.ble (xwds st) 8 = true from Nat.ble_eq_true_of_le hst, show Nat.ble (xwds [((4, a) : xv)]) ml = true from Nat.ble_eq_true_of_le hml, show Nat.ble (cn + u1) 600000 = true from Nat.ble_eq_true_of_le hc2, show Nat.ble (sn + u2) 7302250 = true from Nat.ble_eq_true_of_le hs2]
  simp only [Bool.and_self, cond_true]
  rw [show xorc l D A sv ex L M (z + 1) 6 0 (xarg 0 [((4, a) : xv)]) [] bx h n 0 0 = some [(bx', h', n', none)] from hr]
  dsimp only
  rw [xfrc_eq, xfrc_eq]
  show xapp (xorc l D A sv ex L M 0 7 nx ls st bx' h' n' (cn + u1) (sn + u2)) (some []) = some M
  rw [xorc_at hg]
  show some (M ++ []) = some M
  rw [List.append_nil]
/-- from the law's first instruction to its loop -/
theorem xlaw0 (hi : xinit L = true) (hg : xXG l D A sv ex L 0 7 18 [(3, (0, 0)), (2, (4, 253)), (1, (4, 0)), (0, (6, 0))] [] xb0 xh2 270 270 13086 M) : xXG l D A sv ex L 0 7 0 [(0, (6, 0))] [] xb0 xh0 0 0 0 M := by
  obtain ⟨h1, ⟨q1, hq1⟩, h2⟩ := xinit_ok hi
  unfold xr1_ at h1
  unfold xr2_ at h2
  rw [xsK_eq] at h1 h2
  have g17 : xXG l D A sv ex L 0 7 17 [(2, (4, 253)), (1, (4, 0)), (0, (6, 0))] [(0, 0)] xb0 xh2 270 270 13086 M := xbk (pc := 17) rfl (xorc_at hg)
  have g16 : xXG l D A sv ex L 0 7 16 [(2, (4, 253)), (1, (4, 0)), (0, (6, 0))] [] xb0 xh2 270 270 13086 M := xbk (pc := 16) rfl (xorc_at g17)
  have g15 : xXG l D A sv ex L 0 7 15 [(1, (4, 0)), (0, (6, 0))] [(4, 253)] xb0 xh2 270 270 13086 M := xbk (pc := 15) rfl (xorc_at g16)
  have g12 : xXG l D A sv ex L 0 7 12 [(1, (4, 0)), (0, (6, 0))] [(4, 253), (4, 253)] xb0 (xw (xh1 L) 253 (12, 40, xo_12)) 254 254 5502 M := xbk_ini (pc := 12) (z := 19) rfl rfl (by decide) (by decide) rfl rfl (by decide) (by decide) h2 g15
  have g11 : xXG l D A sv ex L 0 7 11 [(1, (4, 0)), (0, (6, 0))] [(4, 253)] xb0 (xw (xh1 L) 253 (12, 40, xo_12)) 254 254 5502 M := xbk (pc := 11) rfl (xorc_at g12)
  have g8 : xXG l D A sv ex L 0 7 8 [(1, (4, 0)), (0, (6, 0))] [] xb0 (xh1 L) 253 253 5462 M := xbk_new (pc := 8) rfl rfl hq1 rfl rfl (by decide) (by decide) g11
  have g7 : xXG l D A sv ex L 0 7 7 [(0, (6, 0))] [(4, 0)] xb0 (xh1 L) 253 253 5462 M := xbk (pc := 7) rfl (xorc_at g8)
  have g4 : xXG l D A sv ex L 0 7 4 [(0, (6, 0))] [(4, 0), (4, 0)] xb0 (xw xh0 0 (11, 18, xo_11)) 1 1 18 M := xbk_ini (pc := 4) (z := 0) rfl rfl (by decide) (by decide) rfl rfl (by decide) (by decide) h1 g7
  have g3 : xXG l D A sv ex L 0 7 3 [(0, (6, 0))] [(4, 0)] xb0 (xw xh0 0 (11, 18, xo_11)) 1 1 18 M := xbk (pc := 3) rfl (xorc_at g4)
  exact xbk_new (pc := 0) rfl rfl (xmk_get _ 10 0 512 0 (by decide) (by decide) (by decide)) rfl rfl (by decide) (by decide) g3
end Law
