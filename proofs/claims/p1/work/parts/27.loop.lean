/-! The law's loop and switch; its whole run -/
def xofa : Array Int := #[243, 256, 270, 284, 327, 400, 434, 497, 560, 583, 606, 629, 652, 675, 708, 741, 764, 797, 830, 883, 936, 989, 1032, 1085, 1138, 1181, 1204, 1237, 1270, 1293, 1326, 1359, 1392, 1441, 1500, 1523, 1546, 1569, 1592, 1625, 1678, 1701, 1734, 1757, 1790, 1823, 1836, 1849, 1862, 1895, 1918, 1951, 1984, 2007, 2030, 2063, 2076]
theorem xofs : ∀ k, k < 57 → (xofa[k]?).map (fun o => (33 : Int) + o) = some ((xtg.getD k 0 : Nat) : Int) := by decide +kernel
section Law2
variable {l : Launch} {D : va_G} {A : Nat → Prop} {sv : Nat → Int32} {ex : Nat → Nat} {L : Nat} {M : List xleaf}
theorem xsw {ls : List (Nat × xv)} {bx : xbox} {h : xheap} {n cn sn : Nat} (hk : ∀ k, k < 57 → xXG l D A sv ex L 0 7 (xtg.getD k 0) ls [] bx h n cn sn M) (hd : xXG l D A sv ex L 0 7 2122 ls [] bx h n cn sn M) : xXG l D A sv ex L 0 7 33 ls [(7, 0)] bx h n cn sn M := by
  intro p e R s m args below meth c Q as ws H locs la stv C hc hs hw hf hr
  obtain ⟨hl, hst⟩ := hf
  obtain ⟨v, m1, rfl, hv, hr1⟩ := xstR_cons hst
  have e0 := xstR_nil hr1
  subst e0
  obtain ⟨x, rfl⟩ : ∃ x : Int32, v = .int x := hv
  obtain ⟨len, -, hdec, -⟩ := xTab 0 xt_0 33 (.tableswitch 2089 0 56 xofa, 276, 0, 0, 0) xcode0 rfl
  have hex := C.1
  have hb : c.code = xby 0 := C.2.1
  by_cases h0 : x.toInt < 0 ∨ 56 < x.toInt
  · exact lv_tableOut hex hb hdec h0 (tgt := 2122) (by decide) (hd p e R s m args below meth c Q as ws H locs la [] C hc hs hw ⟨hl, trivial⟩ hr)
  · have hlt : x.toInt.toNat < 57 := by omega
    have ho := xofs x.toInt.toNat hlt
    cases hq : xofa[x.toInt.toNat]? with
    | none => rw [hq] at ho; cases ho
    | some o =>
      rw [hq] at ho
      have ho2 : (33 : Int) + o = ((xtg.getD x.toInt.toNat 0 : Nat) : Int) := Option.some.inj ho
      exact lv_tableIn hex hb hdec (by omega) (by omega) (by rw [Int.sub_zero]; exact hq) ho2 (hk _ hlt p e R s m args below meth c Q as ws H locs la [] C hc hs hw ⟨hl, trivial⟩ hr)
theorem xlaw6 : xXG l D A sv ex 6 0 7 18 [(3, (0, 0)), (2, (4, 253)), (1, (4, 0)), (0, (6, 0))] [] xb0 xh2 270 270 13086 xL6 := by
  have g33 : xXG l D A sv ex 6 0 7 33 [(3, (0, 0)), (2, (4, 253)), (1, (4, 0)), (0, (6, 0))] [(7, 0)] xb0 xh2 270 270 13086 xL6 := by
    refine xsw (fun k hk => ?_) ?_
    · refine xXG_mono (xXG_run (xLk_ok (xcs_all k hk)).1) (fun q hq => List.mem_append_right _ (List.mem_flatMap.mpr ⟨k, List.mem_range.mpr hk, hq⟩))
    · exact xXG_mono (xXG_run (xLk_ok xck_57).1) (fun q hq => List.mem_append_left _ hq)
  have g32 : xXG l D A sv ex 6 0 7 32 [(3, (0, 0)), (2, (4, 253)), (1, (4, 0)), (0, (6, 0))] [(0, 63), (1, 0)] xb0 xh2 270 270 13086 xL6 := xbk (pc := 32) rfl (xorc_at g33)
  have g30 : xXG l D A sv ex 6 0 7 30 [(3, (0, 0)), (2, (4, 253)), (1, (4, 0)), (0, (6, 0))] [(1, 0)] xb0 xh2 270 270 13086 xL6 := xbk (pc := 30) rfl (xorc_at g32)
  have g29 : xXG l D A sv ex 6 0 7 29 [(3, (0, 0)), (2, (4, 253)), (1, (4, 0)), (0, (6, 0))] [(0, 0), (6, 0)] xb0 xh2 270 270 13086 xL6 := xbk (pc := 29) rfl (xorc_at g30)
  have g28 : xXG l D A sv ex 6 0 7 28 [(3, (0, 0)), (2, (4, 253)), (1, (4, 0)), (0, (6, 0))] [(6, 0)] xb0 xh2 270 270 13086 xL6 := xbk (pc := 28) rfl (xorc_at g29)
  have g27 : xXG l D A sv ex 6 0 7 27 [(3, (0, 0)), (2, (4, 253)), (1, (4, 0)), (0, (6, 0))] [] xb0 xh2 270 270 13086 xL6 := xbk (pc := 27) rfl (xorc_at g28)
  have g24 : xXG l D A sv ex 6 0 7 24 [(3, (0, 0)), (2, (4, 253)), (1, (4, 0)), (0, (6, 0))] [(0, 0), (0, 0)] xb0 xh2 270 270 13086 xL6 := xbk (pc := 24) rfl (xorc_at g27)
  have g23 : xXG l D A sv ex 6 0 7 23 [(3, (0, 0)), (2, (4, 253)), (1, (4, 0)), (0, (6, 0))] [(0, 6), (0, 6), (0, 0)] xb0 xh2 270 270 13086 xL6 := xbk (pc := 23) rfl (xorc_at g24)
  have g21 : xXG l D A sv ex 6 0 7 21 [(3, (0, 0)), (2, (4, 253)), (1, (4, 0)), (0, (6, 0))] [(0, 6), (0, 0)] xb0 xh2 270 270 13086 xL6 := xbk (pc := 21) rfl (xorc_at g23)
  have g20 : xXG l D A sv ex 6 0 7 20 [(3, (0, 0)), (2, (4, 253)), (1, (4, 0)), (0, (6, 0))] [(6, 0), (0, 0)] xb0 xh2 270 270 13086 xL6 := xbk (pc := 20) rfl (xorc_at g21)
  have g19 : xXG l D A sv ex 6 0 7 19 [(3, (0, 0)), (2, (4, 253)), (1, (4, 0)), (0, (6, 0))] [(0, 0)] xb0 xh2 270 270 13086 xL6 := xbk (pc := 19) rfl (xorc_at g20)
  exact xbk (pc := 18) rfl (xorc_at g19)
/-- every length: from the first instruction, all ends answer 1 -/
theorem xlawL (hL : L ≤ 6) : ∃ M : List xleaf, xXG l D A sv ex L 0 7 0 [(0, (6, 0))] [] xb0 xh0 0 0 0 M ∧ ∀ q ∈ M, q.2.2.2 = some (0, 1) := by
  match L, hL with
  | 0, _ =>
    obtain ⟨M, h1, h2⟩ := xgood_ok xsh_0
    exact ⟨M, xlaw0 xinit_0 (xXG_run h1), h2⟩
  | 1, _ =>
    obtain ⟨M, h1, h2⟩ := xgood_ok xsh_1
    exact ⟨M, xlaw0 xinit_1 (xXG_run h1), h2⟩
  | 2, _ =>
    obtain ⟨M, h1, h2⟩ := xgood_ok xsh_2
    exact ⟨M, xlaw0 xinit_2 (xXG_run h1), h2⟩
  | 3, _ =>
    obtain ⟨M, h1, h2⟩ := xgood_ok xsh_3
    exact ⟨M, xlaw0 xinit_3 (xXG_run h1), h2⟩
  | 4, _ =>
    obtain ⟨M, h1, h2⟩ := xgood_ok xsh_4
    exact ⟨M, xlaw0 xinit_4 (xXG_run h1), h2⟩
  | 5, _ =>
    obtain ⟨M, h1, h2⟩ := xgood_ok xsh_5
    exact ⟨M, xlaw0 xinit_5 (xXG_run h1), h2⟩
  | 6, _ => exact ⟨xL6, xlaw0 xinit_6 xlaw6, xL6_ok⟩
  | k + 7, h => omega
end Law2
