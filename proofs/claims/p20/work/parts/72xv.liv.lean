/-! live, both sides: printed by program (wip/tools/zlv.py) -/
section
set_option maxRecDepth 100000
theorem zy_147 : xg xcode 147 = some xt_147 := rfl
theorem zk_147 : zkc 0 xt_147 = true := by decide +kernel
theorem zy_148 : xg xcode 148 = some xt_148 := rfl
theorem zk_148 : zkc 1 xt_148 = true := by decide +kernel
theorem zy_149 : xg xcode 149 = some xt_149 := rfl
theorem zk_149 : zkc 1 xt_149 = true := by decide +kernel
theorem zy_150 : xg xcode 150 = some xt_150 := rfl
theorem zk_150 : zkc 1 xt_150 = true := by decide +kernel
theorem zy_151 : xg xcode 151 = some xt_151 := rfl
theorem zk_151 : zkc 1 xt_151 = true := by decide +kernel
theorem zy_152 : xg xcode 152 = some xt_152 := rfl
theorem zk_152 : zkc 1 xt_152 = true := by decide +kernel
theorem zy_153 : xg xcode 153 = some xt_153 := rfl
theorem zk_153 : zkc 0 xt_153 = true := by decide +kernel
theorem zy_154 : xg xcode 154 = some xt_154 := rfl
theorem zk_154 : zkc 1 xt_154 = true := by decide +kernel
theorem zy_155 : xg xcode 155 = some xt_155 := rfl
theorem zk_155 : zkc 0 xt_155 = true := by decide +kernel
theorem zy_156 : xg xcode 156 = some xt_156 := rfl
theorem zk_156 : zkc 1 xt_156 = true := by decide +kernel
theorem zy_157 : xg xcode 157 = some xt_157 := rfl
theorem zk_157 : zkc 0 xt_157 = true := by decide +kernel
theorem zy_158 : xg xcode 158 = some xt_158 := rfl
theorem zk_158 : zkc 0 xt_158 = true := by decide +kernel
theorem zy_242 : xg xcode 242 = some xt_242 := rfl
theorem zk_242 : zkc 1 xt_242 = true := by decide +kernel
theorem zy_248 : xg xcode 248 = some xt_248 := rfl
theorem zk_248 : zkc 0 xt_248 = true := by decide +kernel
theorem zy_249 : xg xcode 249 = some xt_249 := rfl
theorem zk_249 : zkc 1 xt_249 = true := by decide +kernel
theorem zy_250 : xg xcode 250 = some xt_250 := rfl
theorem zk_250 : zkc 1 xt_250 = true := by decide +kernel
theorem zy_251 : xg xcode 251 = some xt_251 := rfl
theorem zk_251 : zkc 1 xt_251 = true := by decide +kernel
theorem zy_252 : xg xcode 252 = some xt_252 := rfl
theorem zk_252 : zkc 1 xt_252 = true := by decide +kernel
theorem zy_253 : xg xcode 253 = some xt_253 := rfl
theorem zk_253 : zkc 1 xt_253 = true := by decide +kernel
theorem zy_254 : xg xcode 254 = some xt_254 := rfl
theorem zk_254 : zkc 1 xt_254 = true := by decide +kernel
theorem zy_255 : xg xcode 255 = some xt_255 := rfl
theorem zk_255 : zkc 1 xt_255 = true := by decide +kernel
theorem zy_361 : xg xcode 361 = some xt_361 := rfl
theorem zk_361 : zkc 1 xt_361 = true := by decide +kernel
theorem zy_362 : xg xcode 362 = some xt_362 := rfl
theorem zk_362 : zkc 1 xt_362 = true := by decide +kernel
theorem dvb_9 {g : cg} {i : Int} (h0 : 0 ≤ i) (h1 : i < 60) : dval xh2 g 9 i.toNat = (0, g 9 i.toNat) := dvb (show zck 9 13 60 = true by decide +kernel) (by decide) h0 h1
theorem dvb_10 {g : cg} {i : Int} (h0 : 0 ≤ i) (h1 : i < 60) : dval xh2 g 10 i.toNat = (0, g 10 i.toNat) := dvb (show zck 10 13 60 = true by decide +kernel) (by decide) h0 h1
theorem dvb_11 {g : cg} {i : Int} (h0 : 0 ≤ i) (h1 : i < 60) : dval xh2 g 11 i.toNat = (0, g 11 i.toNat) := dvb (show zck 11 13 60 = true by decide +kernel) (by decide) h0 h1
theorem dvb_12 {g : cg} {i : Int} (h0 : 0 ≤ i) (h1 : i < 60) : dval xh2 g 12 i.toNat = (0, g 12 i.toNat) := dvb (show zck 12 13 60 = true by decide +kernel) (by decide) h0 h1
theorem dvb_13 {g : cg} {i : Int} (h0 : 0 ≤ i) (h1 : i < 60) : dval xh2 g 13 i.toNat = (0, g 13 i.toNat) := dvb (show zck 13 13 60 = true by decide +kernel) (by decide) h0 h1
theorem dvb_14 {g : cg} {i : Int} (h0 : 0 ≤ i) (h1 : i < 60) : dval xh2 g 14 i.toNat = (0, g 14 i.toNat) := dvb (show zck 14 13 60 = true by decide +kernel) (by decide) h0 h1
theorem dvb_15 {g : cg} {i : Int} (h0 : 0 ≤ i) (h1 : i < 60) : dval xh2 g 15 i.toNat = (0, g 15 i.toNat) := dvb (show zck 15 13 60 = true by decide +kernel) (by decide) h0 h1
theorem dvb_16 {g : cg} {i : Int} (h0 : 0 ≤ i) (h1 : i < 60) : dval xh2 g 16 i.toNat = (0, g 16 i.toNat) := dvb (show zck 16 13 60 = true by decide +kernel) (by decide) h0 h1
theorem dvb_108 {g : cg} {i : Int} (h0 : 0 ≤ i) (h1 : i < 3) : dval xh2 g 108 i.toNat = (0, g 108 i.toNat) := dvb (show zck 108 13 3 = true by decide +kernel) (by decide) h0 h1
theorem dvb_109 {g : cg} {i : Int} (h0 : 0 ≤ i) (h1 : i < 40) : dval xh2 g 109 i.toNat = (0, g 109 i.toNat) := dvb (show zck 109 13 40 = true by decide +kernel) (by decide) h0 h1
theorem dvb_111 {g : cg} {i : Int} (h0 : 0 ≤ i) (h1 : i < 8) : dval xh2 g 111 i.toNat = (0, g 111 i.toNat) := dvb (show zck 111 13 8 = true by decide +kernel) (by decide) h0 h1
theorem dvb_112 {g : cg} {i : Int} (h0 : 0 ≤ i) (h1 : i < 40) : dval xh2 g 112 i.toNat = (0, g 112 i.toNat) := dvb (show zck 112 13 40 = true by decide +kernel) (by decide) h0 h1
theorem dvb_267 {g : cg} {i : Int} (h0 : 0 ≤ i) (h1 : i < 80) : dval xh2 g 267 i.toNat = (0, g 267 i.toNat) := dvb (show zck 267 13 80 = true by decide +kernel) (by decide) h0 h1
theorem dvb_268 {g : cg} {i : Int} (h0 : 0 ≤ i) (h1 : i < 5) : dval xh2 g 268 i.toNat = (0, g 268 i.toNat) := dvb (show zck 268 13 5 = true by decide +kernel) (by decide) h0 h1
theorem t_ask0_110 {sv : Nat → Int32} {L n : Nat} {lf : dlf} {g : cg} {o : cg × Option cv} {W P : Nat} (rW : W ≤ 5) (rP : P ≤ 5) (h : zr sv L n 91 0 lf [] g o) (hl0 : lf 0 = (4, 110)) (hl1 : lf 1 = (0, (W : Int))) (hl2 : lf 2 = (0, (P : Int))) : ∃ lf', lf' 0 = (4, 110) ∧ lf' 3 = (0, 0) ∧ zr sv L n 91 27 lf' [] (cup (cup (cup (cup (cup g 110 1 ((W : Int))) 110 2 ((P : Int))) 110 3 0) 110 8 0) 110 4 0) o := by
  rw [zov hl0, zov hl1, zov hl2] at h
  have h := zm zy_91 h 17 (q := (27, dset (dset (dset (dset lf 2 (0, (P : Int))) 1 (0, (W : Int))) 0 (4, 110)) 3 (0, 0), [], cup (cup (cup (cup (cup g 110 1 ((W : Int))) 110 2 ((P : Int))) 110 3 0) 110 8 0) 110 4 0)) rfl
  dsimp only at h
  exact ⟨_, rfl, rfl, h⟩
theorem t_ask27s_110 {sv : Nat → Int32} {L n : Nat} {lf : dlf} {g : cg} {o : cg × Option cv} {k : Nat} (rk : k ≤ 7) (h : zr sv L (n + 1) 91 27 lf [] g o) (hl0 : lf 0 = (4, 110)) (hl3 : lf 3 = (0, (k : Int))) : ∃ lf', lf' 0 = (4, 110) ∧ lf' 3 = (0, 1 + (k : Int)) ∧ zr sv L n 91 27 lf' [] (cup g 111 k 0) o := by
  rw [zov hl0, zov hl3] at h
  have h := zm1 zy_91 h 2 (q := (cond (crel .ge ((k : Int)) 8) 46 33, dset (dset lf 3 (0, (k : Int))) 0 (4, 110), [], g)) rfl
  dsimp only at h
  rcases zif_ge h with ⟨hc1, h⟩ | ⟨hc1, h⟩
  · exact absurd hc1 (by omega)
  · have h := zm zy_91 h 7 (q := (27, dset (dset (dset lf 3 (0, (k : Int))) 0 (4, 110)) 3 (0, w32 (((k : Int)) + 1)), [], cup g 111 (((k : Int)).toNat) 0)) rfl
    dsimp only at h
    try rw [w32_eq (z := ((k : Int)) + 1) (v := 1 + (k : Int)) (by omega) (by omega) (by omega)] at h
    try rw [show ((k : Int)).toNat = k from by omega] at h
    exact ⟨_, rfl, rfl, h⟩
theorem t_ask27e_110 {sv : Nat → Int32} {L n : Nat} {lf : dlf} {g : cg} {o : cg × Option cv} (h : zr sv L (n + 1) 91 27 lf [] g o) (hl0 : lf 0 = (4, 110)) (hl3 : lf 3 = (0, 8)) : ∃ lf', lf' 0 = (4, 110) ∧ lf' 3 = (0, 0) ∧ zr sv L n 91 48 lf' [] g o := by
  rw [zov hl0, zov hl3] at h
  have h := zm1 zy_91 h 4 (q := (48, dset (dset (dset lf 3 (0, 8)) 0 (4, 110)) 3 (0, 0), [], g)) rfl
  dsimp only at h
  exact ⟨_, rfl, rfl, h⟩
theorem t_ask48s_110 {sv : Nat → Int32} {L n : Nat} {lf : dlf} {g : cg} {o : cg × Option cv} {k : Nat} (rk : k ≤ 39) (h : zr sv L (n + 1) 91 48 lf [] g o) (hl0 : lf 0 = (4, 110)) (hl3 : lf 3 = (0, (k : Int))) : ∃ lf', lf' 0 = (4, 110) ∧ lf' 3 = (0, 1 + (k : Int)) ∧ zr sv L n 91 48 lf' [] (cup g 112 k 0) o := by
  rw [zov hl0, zov hl3] at h
  have h := zm1 zy_91 h 2 (q := (cond (crel .ge ((k : Int)) 40) 67 54, dset (dset lf 3 (0, (k : Int))) 0 (4, 110), [], g)) rfl
  dsimp only at h
  rcases zif_ge h with ⟨hc1, h⟩ | ⟨hc1, h⟩
  · exact absurd hc1 (by omega)
  · have h := zm zy_91 h 7 (q := (48, dset (dset (dset lf 3 (0, (k : Int))) 0 (4, 110)) 3 (0, w32 (((k : Int)) + 1)), [], cup g 112 (((k : Int)).toNat) 0)) rfl
    dsimp only at h
    try rw [w32_eq (z := ((k : Int)) + 1) (v := 1 + (k : Int)) (by omega) (by omega) (by omega)] at h
    try rw [show ((k : Int)).toNat = k from by omega] at h
    exact ⟨_, rfl, rfl, h⟩
theorem t_ask48e_110 {sv : Nat → Int32} {L n : Nat} {lf : dlf} {g : cg} {o : cg × Option cv} (h : zr sv L (n + 1) 91 48 lf [] g o) (hl0 : lf 0 = (4, 110)) (hl3 : lf 3 = (0, 40)) : ∃ lf', lf' 0 = (4, 110) ∧ lf' 3 = (2, 0) ∧ lf' 5 = (0, 0) ∧ lf' 6 = (0, 0) ∧ zr sv L n 91 75 lf' [] g o := by
  rw [zov hl0, zov hl3] at h
  have h := zm1 zy_91 h 8 (q := (75, dset (dset (dset (dset (dset lf 3 (0, 40)) 0 (4, 110)) 3 (2, 0)) 5 (0, 0)) 6 (0, 0), [], g)) rfl
  dsimp only at h
  exact ⟨_, rfl, rfl, rfl, rfl, h⟩
theorem t_ask75s_110 {sv : Nat → Int32} {L n : Nat} {lf : dlf} {g : cg} {o : cg × Option cv} {W P w p q t k N : Nat} {f s b sd li v : Int} (rW : W ≤ 5) (rP : P ≤ 5) (rw : w ≤ 5) (rp : p ≤ 5) (rq : q ≤ 4) (rt : t ≤ 7) (rk : k ≤ 15) (rN : N ≤ 16) (hN : g 3 9 = (N : Int)) (hW : g 110 1 = (W : Int)) (hQ : g 110 2 = (P : Int)) (hO : OHC g k w p q t f s b) (hv : g (18 + 2 * p) t = v) (hlt : k < N) (h : zr sv L (n + 1) 91 75 lf [] g o) (hl0 : lf 0 = (4, 110)) (hl3 : lf 3 = (2, sd)) (hl5 : lf 5 = (0, li)) (hl6 : lf 6 = (0, (k : Int))) : (((s ≠ 0) ∨ (s = 0 ∧ (p : Int) ≠ (P : Int))) ∧ (∃ lf', lf' 0 = (4, 110) ∧ lf' 3 = (2, sd) ∧ lf' 5 = (0, li) ∧ lf' 6 = (0, 1 + (k : Int)) ∧ zr sv L n 91 75 lf' [] g o)) ∨ (((s = 0 ∧ (p : Int) = (P : Int) ∧ csgn ((lan (lsr sd (5 * (t : Int))) 31) - 0) = 0 ∧ v ≠ (q : Int)) ∨ (s = 0 ∧ (p : Int) = (P : Int) ∧ csgn ((lan (lsr sd (5 * (t : Int))) 31) - 0) ≠ 0 ∧ csgn ((lan (lsr sd (5 * (t : Int))) 31) - (lsl 1 ((q : Int)))) = 0 ∧ v ≠ (q : Int))) ∧ (∃ g_1, zr sv L n 93 0 (darg 0 [(4, 110), (4, 29 + ((k : Int)))]) [] (cup g 110 4 (bor (g 110 4) 0)) (g_1, none) ∧ (∃ lf', lf' 0 = (4, 110) ∧ lf' 3 = (2, lor sd (lsl 1 ((q : Int) + 5 * (t : Int)))) ∧ lf' 5 = (0, bor li (bsl 1 ((w : Int)))) ∧ lf' 6 = (0, 1 + (k : Int)) ∧ zr sv L n 91 75 lf' [] g_1 o))) ∨ (((s = 0 ∧ (p : Int) = (P : Int) ∧ csgn ((lan (lsr sd (5 * (t : Int))) 31) - 0) = 0 ∧ v = (q : Int)) ∨ (s = 0 ∧ (p : Int) = (P : Int) ∧ csgn ((lan (lsr sd (5 * (t : Int))) 31) - 0) ≠ 0 ∧ csgn ((lan (lsr sd (5 * (t : Int))) 31) - (lsl 1 ((q : Int)))) = 0 ∧ v = (q : Int))) ∧ (∃ g_1, zr sv L n 93 0 (darg 0 [(4, 110), (4, 29 + ((k : Int)))]) [] (cup g 110 4 (bor (g 110 4) 0)) (g_1, none) ∧ (∃ lf', lf' 0 = (4, 110) ∧ lf' 3 = (2, lor sd (lsl 1 ((q : Int) + 5 * (t : Int)))) ∧ lf' 5 = (0, bor li 0) ∧ lf' 6 = (0, 1 + (k : Int)) ∧ zr sv L n 91 75 lf' [] g_1 o))) ∨ ((s = 0 ∧ (p : Int) = (P : Int) ∧ csgn ((lan (lsr sd (5 * (t : Int))) 31) - 0) ≠ 0 ∧ csgn ((lan (lsr sd (5 * (t : Int))) 31) - (lsl 1 ((q : Int)))) ≠ 0 ∧ v ≠ (q : Int)) ∧ (∃ g_1, zr sv L n 93 0 (darg 0 [(4, 110), (4, 29 + ((k : Int)))]) [] (cup g 110 4 (bor (g 110 4) 1)) (g_1, none) ∧ (∃ lf', lf' 0 = (4, 110) ∧ lf' 3 = (2, lor sd (lsl 1 ((q : Int) + 5 * (t : Int)))) ∧ lf' 5 = (0, bor li (bsl 1 ((w : Int)))) ∧ lf' 6 = (0, 1 + (k : Int)) ∧ zr sv L n 91 75 lf' [] g_1 o))) ∨ ((s = 0 ∧ (p : Int) = (P : Int) ∧ csgn ((lan (lsr sd (5 * (t : Int))) 31) - 0) ≠ 0 ∧ csgn ((lan (lsr sd (5 * (t : Int))) 31) - (lsl 1 ((q : Int)))) ≠ 0 ∧ v = (q : Int)) ∧ (∃ g_1, zr sv L n 93 0 (darg 0 [(4, 110), (4, 29 + ((k : Int)))]) [] (cup g 110 4 (bor (g 110 4) 1)) (g_1, none) ∧ (∃ lf', lf' 0 = (4, 110) ∧ lf' 3 = (2, lor sd (lsl 1 ((q : Int) + 5 * (t : Int)))) ∧ lf' 5 = (0, bor li 0) ∧ lf' 6 = (0, 1 + (k : Int)) ∧ zr sv L n 91 75 lf' [] g_1 o))) := by
  rw [zov hl0, zov hl3, zov hl5, zov hl6] at h
  have h := zm1 zy_91 h 4 (q := (cond (crel .ge ((k : Int)) (g 3 9)) 218 87, dset (dset (dset (dset lf 6 (0, (k : Int))) 5 (0, li)) 3 (2, sd)) 0 (4, 110), [], g)) rfl
  dsimp only at h
  try rw [hN] at h
  rcases zif_ge h with ⟨hc1, h⟩ | ⟨hc1, h⟩
  · exact absurd hc1 (by omega)
  · have h := zm zy_91 h 4 (q := (96, dset (dset (dset (dset lf 6 (0, (k : Int))) 5 (0, li)) 3 (2, sd)) 0 (4, 110), [(0, (k : Int)), (4, 7)], g)) rfl
    dsimp only at h
    have h := zald zy_91 h rfl rfl (dvp_7 (i := (k : Int)) (by omega) (by omega))
    dsimp only at h
    have h := zm zy_91 h 4 (q := (105, dset (dset (dset (dset (dset lf 6 (0, (k : Int))) 5 (0, li)) 3 (2, sd)) 0 (4, 110)) 7 (4, 29 + ((k : Int))), [(0, g 110 2), (4, 29 + ((k : Int)))], g)) rfl
    dsimp only at h
    try rw [hQ] at h
    obtain ⟨gz2, rz3, hk, h⟩ := zcallI zy_91 h rfl rfl zy_92 zk_92
    dsimp only at hk h
    have hO4 := h
    have h := hk
    clear hk
    have h := zm zy_92 h 1 (q := (1, darg 0 [(4, 29 + ((k : Int))), (0, (P : Int))], [(4, 29 + ((k : Int)))], g)) rfl
    dsimp only at h
    have h := zgf zy_92 h rfl rfl (dvf_29_5 (i := (k : Int)) (by omega) (by omega))
    dsimp only at h
    try rw [show (29 + ((k : Int))).toNat = 29 + k from by omega] at h
    try rw [hO.2.2.2.2.2.1] at h
    have h := zm zy_92 h 1 (q := (cond (crel .ne s 0) 19 7, darg 0 [(4, 29 + ((k : Int))), (0, (P : Int))], [], g)) rfl
    dsimp only at h
    rcases zif_ne h with ⟨hc5, h⟩ | ⟨hc5, h⟩
    · have h := zm zy_92 h 1 (q := (20, darg 0 [(4, 29 + ((k : Int))), (0, (P : Int))], [(0, 0)], g)) rfl
      dsimp only at h
      have h := zret zy_92 h rfl rfl
      obtain ⟨e1, e2⟩ := oI h
      have h := hO4
      rw [e1, e2] at h
      clear e1 e2
      clear hO4
      have h := zm zy_91 h 3 (q := (75, dset (dset (dset (dset (dset (dset lf 6 (0, (k : Int))) 5 (0, li)) 3 (2, sd)) 0 (4, 110)) 7 (4, 29 + ((k : Int)))) 6 (0, w32 (((k : Int)) + 1)), [], g)) rfl
      dsimp only at h
      try rw [w32_eq (z := ((k : Int)) + 1) (v := 1 + (k : Int)) (by omega) (by omega) (by omega)] at h
      refine Or.inl (⟨Or.inl (hc5), ?_⟩)
      exact ⟨_, rfl, rfl, rfl, rfl, h⟩
    · have h := zm zy_92 h 1 (q := (8, darg 0 [(4, 29 + ((k : Int))), (0, (P : Int))], [(4, 29 + ((k : Int)))], g)) rfl
      dsimp only at h
      have h := zgf zy_92 h rfl rfl (dvf_29_1 (i := (k : Int)) (by omega) (by omega))
      dsimp only at h
      try rw [show (29 + ((k : Int))).toNat = 29 + k from by omega] at h
      try rw [hO.2.1] at h
      have h := zm zy_92 h 2 (q := (cond (crel .ne ((p : Int)) ((P : Int))) 19 15, darg 0 [(4, 29 + ((k : Int))), (0, (P : Int))], [], g)) rfl
      dsimp only at h
      rcases zif_ne h with ⟨hc7, h⟩ | ⟨hc7, h⟩
      · have h := zm zy_92 h 1 (q := (20, darg 0 [(4, 29 + ((k : Int))), (0, (P : Int))], [(0, 0)], g)) rfl
        dsimp only at h
        have h := zret zy_92 h rfl rfl
        obtain ⟨e1, e2⟩ := oI h
        have h := hO4
        rw [e1, e2] at h
        clear e1 e2
        clear hO4
        have h := zm zy_91 h 3 (q := (75, dset (dset (dset (dset (dset (dset lf 6 (0, (k : Int))) 5 (0, li)) 3 (2, sd)) 0 (4, 110)) 7 (4, 29 + ((k : Int)))) 6 (0, w32 (((k : Int)) + 1)), [], g)) rfl
        dsimp only at h
        try rw [w32_eq (z := ((k : Int)) + 1) (v := 1 + (k : Int)) (by omega) (by omega) (by omega)] at h
        refine Or.inl (⟨Or.inr (⟨hc5, hc7⟩), ?_⟩)
        exact ⟨_, rfl, rfl, rfl, rfl, h⟩
      · have h := zm zy_92 h 2 (q := (20, darg 0 [(4, 29 + ((k : Int))), (0, (P : Int))], [(0, 1)], g)) rfl
        dsimp only at h
        have h := zret zy_92 h rfl rfl
        obtain ⟨e1, e2⟩ := oI h
        have h := hO4
        rw [e1, e2] at h
        clear e1 e2
        clear hO4
        have h := zm zy_91 h 3 (q := (114, dset (dset (dset (dset (dset lf 6 (0, (k : Int))) 5 (0, li)) 3 (2, sd)) 0 (4, 110)) 7 (4, 29 + ((k : Int))), [(4, 29 + ((k : Int))), (2, sd)], g)) rfl
        dsimp only at h
        have h := zgf zy_91 h rfl rfl (dvf_29_3 (i := (k : Int)) (by omega) (by omega))
        dsimp only at h
        try rw [show (29 + ((k : Int))).toNat = 29 + k from by omega] at h
        try rw [hO.2.2.2.1] at h
        have h := zm zy_91 h 13 (q := (cond (crel .eq (csgn ((lan (lsr sd (w32 (((t : Int)) * 5))) 31) - 0)) 0) 155 138, dset (dset (dset (dset (dset (dset lf 6 (0, (k : Int))) 5 (0, li)) 3 (2, sd)) 0 (4, 110)) 7 (4, 29 + ((k : Int)))) 8 (2, lan (lsr sd (w32 (((t : Int)) * 5))) 31), [(0, g 110 4), (4, 110)], g)) rfl
        dsimp only at h
        try rw [w32_eq (z := ((t : Int)) * 5) (v := 5 * (t : Int)) (by omega) (by omega) (by omega)] at h
        rcases zif_eq h with ⟨hc9, h⟩ | ⟨hc9, h⟩
        · have h := zm zy_91 h 6 (q := (164, dset (dset (dset (dset (dset (dset lf 6 (0, (k : Int))) 5 (0, li)) 3 (2, sd)) 0 (4, 110)) 7 (4, 29 + ((k : Int)))) 8 (2, lan (lsr sd (5 * (t : Int))) 31), [(4, 29 + ((k : Int))), (2, 1), (2, sd)], cup g 110 4 (bor (g 110 4) 0))) rfl
          dsimp only at h
          have h := zgf zy_91 h rfl rfl (dvf_29_3 (i := (k : Int)) (by omega) (by omega))
          dsimp only at h
          try rw [show (29 + ((k : Int))).toNat = 29 + k from by omega] at h
          try rw [cup_ne (g := g) (k := 110) (j := 4) (k' := 29 + k) (j' := 3) (by omega)] at h
          try rw [hO.2.2.2.1] at h
          have h := zm zy_91 h 3 (q := (171, dset (dset (dset (dset (dset (dset lf 6 (0, (k : Int))) 5 (0, li)) 3 (2, sd)) 0 (4, 110)) 7 (4, 29 + ((k : Int)))) 8 (2, lan (lsr sd (5 * (t : Int))) 31), [(4, 29 + ((k : Int))), (0, w32 (((t : Int)) * 5)), (2, 1), (2, sd)], cup g 110 4 (bor (g 110 4) 0))) rfl
          dsimp only at h
          try rw [w32_eq (z := ((t : Int)) * 5) (v := 5 * (t : Int)) (by omega) (by omega) (by omega)] at h
          have h := zgf zy_91 h rfl rfl (dvf_29_2 (i := (k : Int)) (by omega) (by omega))
          dsimp only at h
          try rw [show (29 + ((k : Int))).toNat = 29 + k from by omega] at h
          try rw [cup_ne (g := g) (k := 110) (j := 4) (k' := 29 + k) (j' := 2) (by omega)] at h
          try rw [hO.2.2.1] at h
          have h := zm zy_91 h 8 (q := (186, dset (dset (dset (dset (dset (dset (dset lf 6 (0, (k : Int))) 5 (0, li)) 3 (2, sd)) 0 (4, 110)) 7 (4, 29 + ((k : Int)))) 8 (2, lan (lsr sd (5 * (t : Int))) 31)) 3 (2, lor sd (lsl 1 (w32 ((5 * (t : Int)) + ((q : Int)))))), [(4, 29 + ((k : Int))), (4, 3), (0, li)], cup g 110 4 (bor (g 110 4) 0))) rfl
          dsimp only at h
          try rw [w32_eq (z := (5 * (t : Int)) + ((q : Int))) (v := (q : Int) + 5 * (t : Int)) (by omega) (by omega) (by omega)] at h
          obtain ⟨gz10, rz11, hk, h⟩ := zcallI zy_91 h rfl rfl zy_88 zk_88
          dsimp only at hk h
          have hO12 := h
          have h := hk
          clear hk
          have h := zm zy_88 h 3 (q := (5, darg 0 [(4, 3), (4, 29 + ((k : Int)))], [(4, 29 + ((k : Int))), (4, 6)], cup g 110 4 (bor (g 110 4) 0))) rfl
          dsimp only at h
          have h := zgf zy_88 h rfl rfl (dvf_29_1 (i := (k : Int)) (by omega) (by omega))
          dsimp only at h
          try rw [show (29 + ((k : Int))).toNat = 29 + k from by omega] at h
          try rw [cup_ne (g := g) (k := 110) (j := 4) (k' := 29 + k) (j' := 1) (by omega)] at h
          try rw [hO.2.1] at h
          have h := zald zy_88 h rfl rfl (dvp_6 (i := (p : Int)) (by omega) (by omega))
          dsimp only at h
          have h := zgf zy_88 h rfl rfl (dvf_17_6 (i := (p : Int)) (by omega) (by omega))
          have h := zm zy_88 h 1 (q := (13, darg 0 [(4, 3), (4, 29 + ((k : Int)))], [(4, 29 + ((k : Int))), (4, 18 + 2 * ((p : Int)))], cup g 110 4 (bor (g 110 4) 0))) rfl
          dsimp only at h
          have h := zgf zy_88 h rfl rfl (dvf_29_3 (i := (k : Int)) (by omega) (by omega))
          dsimp only at h
          try rw [show (29 + ((k : Int))).toNat = 29 + k from by omega] at h
          try rw [cup_ne (g := g) (k := 110) (j := 4) (k' := 29 + k) (j' := 3) (by omega)] at h
          try rw [hO.2.2.2.1] at h
          have h := zald zy_88 h rfl rfl (dvr_18 (i := (p : Int)) (j := (t : Int)) (by omega) (by omega) (by omega) (by omega))
          dsimp only at h
          try rw [show (18 + 2 * ((p : Int))).toNat = 18 + 2 * p from by omega] at h
          try rw [show ((t : Int)).toNat = t from by omega] at h
          try rw [cup_ne (g := g) (k := 110) (j := 4) (k' := 18 + 2 * p) (j' := t) (by omega)] at h
          try rw [hv] at h
          have h := zm zy_88 h 1 (q := (18, darg 0 [(4, 3), (4, 29 + ((k : Int)))], [(4, 29 + ((k : Int))), (0, v)], cup g 110 4 (bor (g 110 4) 0))) rfl
          dsimp only at h
          have h := zgf zy_88 h rfl rfl (dvf_29_2 (i := (k : Int)) (by omega) (by omega))
          dsimp only at h
          try rw [show (29 + ((k : Int))).toNat = 29 + k from by omega] at h
          try rw [cup_ne (g := g) (k := 110) (j := 4) (k' := 29 + k) (j' := 2) (by omega)] at h
          try rw [hO.2.2.1] at h
          have h := zm zy_88 h 1 (q := (cond (crel .ne v ((q : Int))) 28 24, darg 0 [(4, 3), (4, 29 + ((k : Int)))], [], cup g 110 4 (bor (g 110 4) 0))) rfl
          dsimp only at h
          rcases zif_ne h with ⟨hc13, h⟩ | ⟨hc13, h⟩
          · have h := zm zy_88 h 1 (q := (29, darg 0 [(4, 3), (4, 29 + ((k : Int)))], [(0, 0)], cup g 110 4 (bor (g 110 4) 0))) rfl
            dsimp only at h
            have h := zret zy_88 h rfl rfl
            obtain ⟨e1, e2⟩ := oI h
            have h := hO12
            rw [e1, e2] at h
            clear e1 e2
            clear hO12
            have h := zm zy_91 h 3 (q := (199, dset (dset (dset (dset (dset (dset (dset lf 6 (0, (k : Int))) 5 (0, li)) 3 (2, sd)) 0 (4, 110)) 7 (4, 29 + ((k : Int)))) 8 (2, lan (lsr sd (5 * (t : Int))) 31)) 3 (2, lor sd (lsl 1 ((q : Int) + 5 * (t : Int)))), [(4, 29 + ((k : Int))), (0, 1), (0, li)], cup g 110 4 (bor (g 110 4) 0))) rfl
            dsimp only at h
            have h := zgf zy_91 h rfl rfl (dvf_29_0 (i := (k : Int)) (by omega) (by omega))
            dsimp only at h
            try rw [show (29 + ((k : Int))).toNat = 29 + k from by omega] at h
            try rw [cup_ne (g := g) (k := 110) (j := 4) (k' := 29 + k) (j' := 0) (by omega)] at h
            try rw [hO.1] at h
            have h := zm zy_91 h 5 (q := (209, dset (dset (dset (dset (dset (dset (dset (dset lf 6 (0, (k : Int))) 5 (0, li)) 3 (2, sd)) 0 (4, 110)) 7 (4, 29 + ((k : Int)))) 8 (2, lan (lsr sd (5 * (t : Int))) 31)) 3 (2, lor sd (lsl 1 ((q : Int) + 5 * (t : Int))))) 5 (0, bor li (bsl 1 ((w : Int)))), [(4, 29 + ((k : Int))), (4, 110)], cup g 110 4 (bor (g 110 4) 0))) rfl
            dsimp only at h
            obtain ⟨g_1, hk, h⟩ := zcallV zy_91 h rfl rfl zy_93 zk_93
            dsimp only at hk h
            refine Or.inr (Or.inl (⟨Or.inl (⟨hc5, hc7, hc9, hc13⟩), ?_⟩))
            refine ⟨g_1, hk, ?_⟩
            have h := zm zy_91 h 2 (q := (75, dset (dset (dset (dset (dset (dset (dset (dset (dset lf 6 (0, (k : Int))) 5 (0, li)) 3 (2, sd)) 0 (4, 110)) 7 (4, 29 + ((k : Int)))) 8 (2, lan (lsr sd (5 * (t : Int))) 31)) 3 (2, lor sd (lsl 1 ((q : Int) + 5 * (t : Int))))) 5 (0, bor li (bsl 1 ((w : Int))))) 6 (0, w32 (((k : Int)) + 1)), [], g_1)) rfl
            dsimp only at h
            try rw [w32_eq (z := ((k : Int)) + 1) (v := 1 + (k : Int)) (by omega) (by omega) (by omega)] at h
            exact ⟨_, rfl, rfl, rfl, rfl, h⟩
          · have h := zm zy_88 h 2 (q := (29, darg 0 [(4, 3), (4, 29 + ((k : Int)))], [(0, 1)], cup g 110 4 (bor (g 110 4) 0))) rfl
            dsimp only at h
            have h := zret zy_88 h rfl rfl
            obtain ⟨e1, e2⟩ := oI h
            have h := hO12
            rw [e1, e2] at h
            clear e1 e2
            clear hO12
            have h := zm zy_91 h 7 (q := (209, dset (dset (dset (dset (dset (dset (dset (dset lf 6 (0, (k : Int))) 5 (0, li)) 3 (2, sd)) 0 (4, 110)) 7 (4, 29 + ((k : Int)))) 8 (2, lan (lsr sd (5 * (t : Int))) 31)) 3 (2, lor sd (lsl 1 ((q : Int) + 5 * (t : Int))))) 5 (0, bor li 0), [(4, 29 + ((k : Int))), (4, 110)], cup g 110 4 (bor (g 110 4) 0))) rfl
            dsimp only at h
            obtain ⟨g_1, hk, h⟩ := zcallV zy_91 h rfl rfl zy_93 zk_93
            dsimp only at hk h
            refine Or.inr (Or.inr (Or.inl (⟨Or.inl (⟨hc5, hc7, hc9, hc13⟩), ?_⟩)))
            refine ⟨g_1, hk, ?_⟩
            have h := zm zy_91 h 2 (q := (75, dset (dset (dset (dset (dset (dset (dset (dset (dset lf 6 (0, (k : Int))) 5 (0, li)) 3 (2, sd)) 0 (4, 110)) 7 (4, 29 + ((k : Int)))) 8 (2, lan (lsr sd (5 * (t : Int))) 31)) 3 (2, lor sd (lsl 1 ((q : Int) + 5 * (t : Int))))) 5 (0, bor li 0)) 6 (0, w32 (((k : Int)) + 1)), [], g_1)) rfl
            dsimp only at h
            try rw [w32_eq (z := ((k : Int)) + 1) (v := 1 + (k : Int)) (by omega) (by omega) (by omega)] at h
            exact ⟨_, rfl, rfl, rfl, rfl, h⟩
        · have h := zm zy_91 h 3 (q := (143, dset (dset (dset (dset (dset (dset lf 6 (0, (k : Int))) 5 (0, li)) 3 (2, sd)) 0 (4, 110)) 7 (4, 29 + ((k : Int)))) 8 (2, lan (lsr sd (5 * (t : Int))) 31), [(4, 29 + ((k : Int))), (2, 1), (2, lan (lsr sd (5 * (t : Int))) 31), (0, g 110 4), (4, 110)], g)) rfl
          dsimp only at h
          have h := zgf zy_91 h rfl rfl (dvf_29_2 (i := (k : Int)) (by omega) (by omega))
          dsimp only at h
          try rw [show (29 + ((k : Int))).toNat = 29 + k from by omega] at h
          try rw [hO.2.2.1] at h
          have h := zm zy_91 h 3 (q := (cond (crel .eq (csgn ((lan (lsr sd (5 * (t : Int))) 31) - (lsl 1 ((q : Int))))) 0) 155 151, dset (dset (dset (dset (dset (dset lf 6 (0, (k : Int))) 5 (0, li)) 3 (2, sd)) 0 (4, 110)) 7 (4, 29 + ((k : Int)))) 8 (2, lan (lsr sd (5 * (t : Int))) 31), [(0, g 110 4), (4, 110)], g)) rfl
          dsimp only at h
          rcases zif_eq h with ⟨hc16, h⟩ | ⟨hc16, h⟩
          · have h := zm zy_91 h 6 (q := (164, dset (dset (dset (dset (dset (dset lf 6 (0, (k : Int))) 5 (0, li)) 3 (2, sd)) 0 (4, 110)) 7 (4, 29 + ((k : Int)))) 8 (2, lan (lsr sd (5 * (t : Int))) 31), [(4, 29 + ((k : Int))), (2, 1), (2, sd)], cup g 110 4 (bor (g 110 4) 0))) rfl
            dsimp only at h
            have h := zgf zy_91 h rfl rfl (dvf_29_3 (i := (k : Int)) (by omega) (by omega))
            dsimp only at h
            try rw [show (29 + ((k : Int))).toNat = 29 + k from by omega] at h
            try rw [cup_ne (g := g) (k := 110) (j := 4) (k' := 29 + k) (j' := 3) (by omega)] at h
            try rw [hO.2.2.2.1] at h
            have h := zm zy_91 h 3 (q := (171, dset (dset (dset (dset (dset (dset lf 6 (0, (k : Int))) 5 (0, li)) 3 (2, sd)) 0 (4, 110)) 7 (4, 29 + ((k : Int)))) 8 (2, lan (lsr sd (5 * (t : Int))) 31), [(4, 29 + ((k : Int))), (0, w32 (((t : Int)) * 5)), (2, 1), (2, sd)], cup g 110 4 (bor (g 110 4) 0))) rfl
            dsimp only at h
            try rw [w32_eq (z := ((t : Int)) * 5) (v := 5 * (t : Int)) (by omega) (by omega) (by omega)] at h
            have h := zgf zy_91 h rfl rfl (dvf_29_2 (i := (k : Int)) (by omega) (by omega))
            dsimp only at h
            try rw [show (29 + ((k : Int))).toNat = 29 + k from by omega] at h
            try rw [cup_ne (g := g) (k := 110) (j := 4) (k' := 29 + k) (j' := 2) (by omega)] at h
            try rw [hO.2.2.1] at h
            have h := zm zy_91 h 8 (q := (186, dset (dset (dset (dset (dset (dset (dset lf 6 (0, (k : Int))) 5 (0, li)) 3 (2, sd)) 0 (4, 110)) 7 (4, 29 + ((k : Int)))) 8 (2, lan (lsr sd (5 * (t : Int))) 31)) 3 (2, lor sd (lsl 1 (w32 ((5 * (t : Int)) + ((q : Int)))))), [(4, 29 + ((k : Int))), (4, 3), (0, li)], cup g 110 4 (bor (g 110 4) 0))) rfl
            dsimp only at h
            try rw [w32_eq (z := (5 * (t : Int)) + ((q : Int))) (v := (q : Int) + 5 * (t : Int)) (by omega) (by omega) (by omega)] at h
            obtain ⟨gz17, rz18, hk, h⟩ := zcallI zy_91 h rfl rfl zy_88 zk_88
            dsimp only at hk h
            have hO19 := h
            have h := hk
            clear hk
            have h := zm zy_88 h 3 (q := (5, darg 0 [(4, 3), (4, 29 + ((k : Int)))], [(4, 29 + ((k : Int))), (4, 6)], cup g 110 4 (bor (g 110 4) 0))) rfl
            dsimp only at h
            have h := zgf zy_88 h rfl rfl (dvf_29_1 (i := (k : Int)) (by omega) (by omega))
            dsimp only at h
            try rw [show (29 + ((k : Int))).toNat = 29 + k from by omega] at h
            try rw [cup_ne (g := g) (k := 110) (j := 4) (k' := 29 + k) (j' := 1) (by omega)] at h
            try rw [hO.2.1] at h
            have h := zald zy_88 h rfl rfl (dvp_6 (i := (p : Int)) (by omega) (by omega))
            dsimp only at h
            have h := zgf zy_88 h rfl rfl (dvf_17_6 (i := (p : Int)) (by omega) (by omega))
            have h := zm zy_88 h 1 (q := (13, darg 0 [(4, 3), (4, 29 + ((k : Int)))], [(4, 29 + ((k : Int))), (4, 18 + 2 * ((p : Int)))], cup g 110 4 (bor (g 110 4) 0))) rfl
            dsimp only at h
            have h := zgf zy_88 h rfl rfl (dvf_29_3 (i := (k : Int)) (by omega) (by omega))
            dsimp only at h
            try rw [show (29 + ((k : Int))).toNat = 29 + k from by omega] at h
            try rw [cup_ne (g := g) (k := 110) (j := 4) (k' := 29 + k) (j' := 3) (by omega)] at h
            try rw [hO.2.2.2.1] at h
            have h := zald zy_88 h rfl rfl (dvr_18 (i := (p : Int)) (j := (t : Int)) (by omega) (by omega) (by omega) (by omega))
            dsimp only at h
            try rw [show (18 + 2 * ((p : Int))).toNat = 18 + 2 * p from by omega] at h
            try rw [show ((t : Int)).toNat = t from by omega] at h
            try rw [cup_ne (g := g) (k := 110) (j := 4) (k' := 18 + 2 * p) (j' := t) (by omega)] at h
            try rw [hv] at h
            have h := zm zy_88 h 1 (q := (18, darg 0 [(4, 3), (4, 29 + ((k : Int)))], [(4, 29 + ((k : Int))), (0, v)], cup g 110 4 (bor (g 110 4) 0))) rfl
            dsimp only at h
            have h := zgf zy_88 h rfl rfl (dvf_29_2 (i := (k : Int)) (by omega) (by omega))
            dsimp only at h
            try rw [show (29 + ((k : Int))).toNat = 29 + k from by omega] at h
            try rw [cup_ne (g := g) (k := 110) (j := 4) (k' := 29 + k) (j' := 2) (by omega)] at h
            try rw [hO.2.2.1] at h
            have h := zm zy_88 h 1 (q := (cond (crel .ne v ((q : Int))) 28 24, darg 0 [(4, 3), (4, 29 + ((k : Int)))], [], cup g 110 4 (bor (g 110 4) 0))) rfl
            dsimp only at h
            rcases zif_ne h with ⟨hc20, h⟩ | ⟨hc20, h⟩
            · have h := zm zy_88 h 1 (q := (29, darg 0 [(4, 3), (4, 29 + ((k : Int)))], [(0, 0)], cup g 110 4 (bor (g 110 4) 0))) rfl
              dsimp only at h
              have h := zret zy_88 h rfl rfl
              obtain ⟨e1, e2⟩ := oI h
              have h := hO19
              rw [e1, e2] at h
              clear e1 e2
              clear hO19
              have h := zm zy_91 h 3 (q := (199, dset (dset (dset (dset (dset (dset (dset lf 6 (0, (k : Int))) 5 (0, li)) 3 (2, sd)) 0 (4, 110)) 7 (4, 29 + ((k : Int)))) 8 (2, lan (lsr sd (5 * (t : Int))) 31)) 3 (2, lor sd (lsl 1 ((q : Int) + 5 * (t : Int)))), [(4, 29 + ((k : Int))), (0, 1), (0, li)], cup g 110 4 (bor (g 110 4) 0))) rfl
              dsimp only at h
              have h := zgf zy_91 h rfl rfl (dvf_29_0 (i := (k : Int)) (by omega) (by omega))
              dsimp only at h
              try rw [show (29 + ((k : Int))).toNat = 29 + k from by omega] at h
              try rw [cup_ne (g := g) (k := 110) (j := 4) (k' := 29 + k) (j' := 0) (by omega)] at h
              try rw [hO.1] at h
              have h := zm zy_91 h 5 (q := (209, dset (dset (dset (dset (dset (dset (dset (dset lf 6 (0, (k : Int))) 5 (0, li)) 3 (2, sd)) 0 (4, 110)) 7 (4, 29 + ((k : Int)))) 8 (2, lan (lsr sd (5 * (t : Int))) 31)) 3 (2, lor sd (lsl 1 ((q : Int) + 5 * (t : Int))))) 5 (0, bor li (bsl 1 ((w : Int)))), [(4, 29 + ((k : Int))), (4, 110)], cup g 110 4 (bor (g 110 4) 0))) rfl
              dsimp only at h
              obtain ⟨g_1, hk, h⟩ := zcallV zy_91 h rfl rfl zy_93 zk_93
              dsimp only at hk h
              refine Or.inr (Or.inl (⟨Or.inr (⟨hc5, hc7, hc9, hc16, hc20⟩), ?_⟩))
              refine ⟨g_1, hk, ?_⟩
              have h := zm zy_91 h 2 (q := (75, dset (dset (dset (dset (dset (dset (dset (dset (dset lf 6 (0, (k : Int))) 5 (0, li)) 3 (2, sd)) 0 (4, 110)) 7 (4, 29 + ((k : Int)))) 8 (2, lan (lsr sd (5 * (t : Int))) 31)) 3 (2, lor sd (lsl 1 ((q : Int) + 5 * (t : Int))))) 5 (0, bor li (bsl 1 ((w : Int))))) 6 (0, w32 (((k : Int)) + 1)), [], g_1)) rfl
              dsimp only at h
              try rw [w32_eq (z := ((k : Int)) + 1) (v := 1 + (k : Int)) (by omega) (by omega) (by omega)] at h
              exact ⟨_, rfl, rfl, rfl, rfl, h⟩
            · have h := zm zy_88 h 2 (q := (29, darg 0 [(4, 3), (4, 29 + ((k : Int)))], [(0, 1)], cup g 110 4 (bor (g 110 4) 0))) rfl
              dsimp only at h
              have h := zret zy_88 h rfl rfl
              obtain ⟨e1, e2⟩ := oI h
              have h := hO19
              rw [e1, e2] at h
              clear e1 e2
              clear hO19
              have h := zm zy_91 h 7 (q := (209, dset (dset (dset (dset (dset (dset (dset (dset lf 6 (0, (k : Int))) 5 (0, li)) 3 (2, sd)) 0 (4, 110)) 7 (4, 29 + ((k : Int)))) 8 (2, lan (lsr sd (5 * (t : Int))) 31)) 3 (2, lor sd (lsl 1 ((q : Int) + 5 * (t : Int))))) 5 (0, bor li 0), [(4, 29 + ((k : Int))), (4, 110)], cup g 110 4 (bor (g 110 4) 0))) rfl
              dsimp only at h
              obtain ⟨g_1, hk, h⟩ := zcallV zy_91 h rfl rfl zy_93 zk_93
              dsimp only at hk h
              refine Or.inr (Or.inr (Or.inl (⟨Or.inr (⟨hc5, hc7, hc9, hc16, hc20⟩), ?_⟩)))
              refine ⟨g_1, hk, ?_⟩
              have h := zm zy_91 h 2 (q := (75, dset (dset (dset (dset (dset (dset (dset (dset (dset lf 6 (0, (k : Int))) 5 (0, li)) 3 (2, sd)) 0 (4, 110)) 7 (4, 29 + ((k : Int)))) 8 (2, lan (lsr sd (5 * (t : Int))) 31)) 3 (2, lor sd (lsl 1 ((q : Int) + 5 * (t : Int))))) 5 (0, bor li 0)) 6 (0, w32 (((k : Int)) + 1)), [], g_1)) rfl
              dsimp only at h
              try rw [w32_eq (z := ((k : Int)) + 1) (v := 1 + (k : Int)) (by omega) (by omega) (by omega)] at h
              exact ⟨_, rfl, rfl, rfl, rfl, h⟩
          · have h := zm zy_91 h 7 (q := (164, dset (dset (dset (dset (dset (dset lf 6 (0, (k : Int))) 5 (0, li)) 3 (2, sd)) 0 (4, 110)) 7 (4, 29 + ((k : Int)))) 8 (2, lan (lsr sd (5 * (t : Int))) 31), [(4, 29 + ((k : Int))), (2, 1), (2, sd)], cup g 110 4 (bor (g 110 4) 1))) rfl
            dsimp only at h
            have h := zgf zy_91 h rfl rfl (dvf_29_3 (i := (k : Int)) (by omega) (by omega))
            dsimp only at h
            try rw [show (29 + ((k : Int))).toNat = 29 + k from by omega] at h
            try rw [cup_ne (g := g) (k := 110) (j := 4) (k' := 29 + k) (j' := 3) (by omega)] at h
            try rw [hO.2.2.2.1] at h
            have h := zm zy_91 h 3 (q := (171, dset (dset (dset (dset (dset (dset lf 6 (0, (k : Int))) 5 (0, li)) 3 (2, sd)) 0 (4, 110)) 7 (4, 29 + ((k : Int)))) 8 (2, lan (lsr sd (5 * (t : Int))) 31), [(4, 29 + ((k : Int))), (0, w32 (((t : Int)) * 5)), (2, 1), (2, sd)], cup g 110 4 (bor (g 110 4) 1))) rfl
            dsimp only at h
            try rw [w32_eq (z := ((t : Int)) * 5) (v := 5 * (t : Int)) (by omega) (by omega) (by omega)] at h
            have h := zgf zy_91 h rfl rfl (dvf_29_2 (i := (k : Int)) (by omega) (by omega))
            dsimp only at h
            try rw [show (29 + ((k : Int))).toNat = 29 + k from by omega] at h
            try rw [cup_ne (g := g) (k := 110) (j := 4) (k' := 29 + k) (j' := 2) (by omega)] at h
            try rw [hO.2.2.1] at h
            have h := zm zy_91 h 8 (q := (186, dset (dset (dset (dset (dset (dset (dset lf 6 (0, (k : Int))) 5 (0, li)) 3 (2, sd)) 0 (4, 110)) 7 (4, 29 + ((k : Int)))) 8 (2, lan (lsr sd (5 * (t : Int))) 31)) 3 (2, lor sd (lsl 1 (w32 ((5 * (t : Int)) + ((q : Int)))))), [(4, 29 + ((k : Int))), (4, 3), (0, li)], cup g 110 4 (bor (g 110 4) 1))) rfl
            dsimp only at h
            try rw [w32_eq (z := (5 * (t : Int)) + ((q : Int))) (v := (q : Int) + 5 * (t : Int)) (by omega) (by omega) (by omega)] at h
            obtain ⟨gz23, rz24, hk, h⟩ := zcallI zy_91 h rfl rfl zy_88 zk_88
            dsimp only at hk h
            have hO25 := h
            have h := hk
            clear hk
            have h := zm zy_88 h 3 (q := (5, darg 0 [(4, 3), (4, 29 + ((k : Int)))], [(4, 29 + ((k : Int))), (4, 6)], cup g 110 4 (bor (g 110 4) 1))) rfl
            dsimp only at h
            have h := zgf zy_88 h rfl rfl (dvf_29_1 (i := (k : Int)) (by omega) (by omega))
            dsimp only at h
            try rw [show (29 + ((k : Int))).toNat = 29 + k from by omega] at h
            try rw [cup_ne (g := g) (k := 110) (j := 4) (k' := 29 + k) (j' := 1) (by omega)] at h
            try rw [hO.2.1] at h
            have h := zald zy_88 h rfl rfl (dvp_6 (i := (p : Int)) (by omega) (by omega))
            dsimp only at h
            have h := zgf zy_88 h rfl rfl (dvf_17_6 (i := (p : Int)) (by omega) (by omega))
            have h := zm zy_88 h 1 (q := (13, darg 0 [(4, 3), (4, 29 + ((k : Int)))], [(4, 29 + ((k : Int))), (4, 18 + 2 * ((p : Int)))], cup g 110 4 (bor (g 110 4) 1))) rfl
            dsimp only at h
            have h := zgf zy_88 h rfl rfl (dvf_29_3 (i := (k : Int)) (by omega) (by omega))
            dsimp only at h
            try rw [show (29 + ((k : Int))).toNat = 29 + k from by omega] at h
            try rw [cup_ne (g := g) (k := 110) (j := 4) (k' := 29 + k) (j' := 3) (by omega)] at h
            try rw [hO.2.2.2.1] at h
            have h := zald zy_88 h rfl rfl (dvr_18 (i := (p : Int)) (j := (t : Int)) (by omega) (by omega) (by omega) (by omega))
            dsimp only at h
            try rw [show (18 + 2 * ((p : Int))).toNat = 18 + 2 * p from by omega] at h
            try rw [show ((t : Int)).toNat = t from by omega] at h
            try rw [cup_ne (g := g) (k := 110) (j := 4) (k' := 18 + 2 * p) (j' := t) (by omega)] at h
            try rw [hv] at h
            have h := zm zy_88 h 1 (q := (18, darg 0 [(4, 3), (4, 29 + ((k : Int)))], [(4, 29 + ((k : Int))), (0, v)], cup g 110 4 (bor (g 110 4) 1))) rfl
            dsimp only at h
            have h := zgf zy_88 h rfl rfl (dvf_29_2 (i := (k : Int)) (by omega) (by omega))
            dsimp only at h
            try rw [show (29 + ((k : Int))).toNat = 29 + k from by omega] at h
            try rw [cup_ne (g := g) (k := 110) (j := 4) (k' := 29 + k) (j' := 2) (by omega)] at h
            try rw [hO.2.2.1] at h
            have h := zm zy_88 h 1 (q := (cond (crel .ne v ((q : Int))) 28 24, darg 0 [(4, 3), (4, 29 + ((k : Int)))], [], cup g 110 4 (bor (g 110 4) 1))) rfl
            dsimp only at h
            rcases zif_ne h with ⟨hc26, h⟩ | ⟨hc26, h⟩
            · have h := zm zy_88 h 1 (q := (29, darg 0 [(4, 3), (4, 29 + ((k : Int)))], [(0, 0)], cup g 110 4 (bor (g 110 4) 1))) rfl
              dsimp only at h
              have h := zret zy_88 h rfl rfl
              obtain ⟨e1, e2⟩ := oI h
              have h := hO25
              rw [e1, e2] at h
              clear e1 e2
              clear hO25
              have h := zm zy_91 h 3 (q := (199, dset (dset (dset (dset (dset (dset (dset lf 6 (0, (k : Int))) 5 (0, li)) 3 (2, sd)) 0 (4, 110)) 7 (4, 29 + ((k : Int)))) 8 (2, lan (lsr sd (5 * (t : Int))) 31)) 3 (2, lor sd (lsl 1 ((q : Int) + 5 * (t : Int)))), [(4, 29 + ((k : Int))), (0, 1), (0, li)], cup g 110 4 (bor (g 110 4) 1))) rfl
              dsimp only at h
              have h := zgf zy_91 h rfl rfl (dvf_29_0 (i := (k : Int)) (by omega) (by omega))
              dsimp only at h
              try rw [show (29 + ((k : Int))).toNat = 29 + k from by omega] at h
              try rw [cup_ne (g := g) (k := 110) (j := 4) (k' := 29 + k) (j' := 0) (by omega)] at h
              try rw [hO.1] at h
              have h := zm zy_91 h 5 (q := (209, dset (dset (dset (dset (dset (dset (dset (dset lf 6 (0, (k : Int))) 5 (0, li)) 3 (2, sd)) 0 (4, 110)) 7 (4, 29 + ((k : Int)))) 8 (2, lan (lsr sd (5 * (t : Int))) 31)) 3 (2, lor sd (lsl 1 ((q : Int) + 5 * (t : Int))))) 5 (0, bor li (bsl 1 ((w : Int)))), [(4, 29 + ((k : Int))), (4, 110)], cup g 110 4 (bor (g 110 4) 1))) rfl
              dsimp only at h
              obtain ⟨g_1, hk, h⟩ := zcallV zy_91 h rfl rfl zy_93 zk_93
              dsimp only at hk h
              refine Or.inr (Or.inr (Or.inr (Or.inl (⟨⟨hc5, hc7, hc9, hc16, hc26⟩, ?_⟩))))
              refine ⟨g_1, hk, ?_⟩
              have h := zm zy_91 h 2 (q := (75, dset (dset (dset (dset (dset (dset (dset (dset (dset lf 6 (0, (k : Int))) 5 (0, li)) 3 (2, sd)) 0 (4, 110)) 7 (4, 29 + ((k : Int)))) 8 (2, lan (lsr sd (5 * (t : Int))) 31)) 3 (2, lor sd (lsl 1 ((q : Int) + 5 * (t : Int))))) 5 (0, bor li (bsl 1 ((w : Int))))) 6 (0, w32 (((k : Int)) + 1)), [], g_1)) rfl
              dsimp only at h
              try rw [w32_eq (z := ((k : Int)) + 1) (v := 1 + (k : Int)) (by omega) (by omega) (by omega)] at h
              exact ⟨_, rfl, rfl, rfl, rfl, h⟩
            · have h := zm zy_88 h 2 (q := (29, darg 0 [(4, 3), (4, 29 + ((k : Int)))], [(0, 1)], cup g 110 4 (bor (g 110 4) 1))) rfl
              dsimp only at h
              have h := zret zy_88 h rfl rfl
              obtain ⟨e1, e2⟩ := oI h
              have h := hO25
              rw [e1, e2] at h
              clear e1 e2
              clear hO25
              have h := zm zy_91 h 7 (q := (209, dset (dset (dset (dset (dset (dset (dset (dset lf 6 (0, (k : Int))) 5 (0, li)) 3 (2, sd)) 0 (4, 110)) 7 (4, 29 + ((k : Int)))) 8 (2, lan (lsr sd (5 * (t : Int))) 31)) 3 (2, lor sd (lsl 1 ((q : Int) + 5 * (t : Int))))) 5 (0, bor li 0), [(4, 29 + ((k : Int))), (4, 110)], cup g 110 4 (bor (g 110 4) 1))) rfl
              dsimp only at h
              obtain ⟨g_1, hk, h⟩ := zcallV zy_91 h rfl rfl zy_93 zk_93
              dsimp only at hk h
              refine Or.inr (Or.inr (Or.inr (Or.inr (⟨⟨hc5, hc7, hc9, hc16, hc26⟩, ?_⟩))))
              refine ⟨g_1, hk, ?_⟩
              have h := zm zy_91 h 2 (q := (75, dset (dset (dset (dset (dset (dset (dset (dset (dset lf 6 (0, (k : Int))) 5 (0, li)) 3 (2, sd)) 0 (4, 110)) 7 (4, 29 + ((k : Int)))) 8 (2, lan (lsr sd (5 * (t : Int))) 31)) 3 (2, lor sd (lsl 1 ((q : Int) + 5 * (t : Int))))) 5 (0, bor li 0)) 6 (0, w32 (((k : Int)) + 1)), [], g_1)) rfl
              dsimp only at h
              try rw [w32_eq (z := ((k : Int)) + 1) (v := 1 + (k : Int)) (by omega) (by omega) (by omega)] at h
              exact ⟨_, rfl, rfl, rfl, rfl, h⟩
theorem t_ask75e_110 {sv : Nat → Int32} {L n : Nat} {lf : dlf} {g : cg} {o : cg × Option cv} {W P k N : Nat} {sd li fr : Int} (rW : W ≤ 5) (rP : P ≤ 5) (rk : k ≤ 16) (rN : N ≤ 16) (hN : g 3 9 = (N : Int)) (hW : g 110 1 = (W : Int)) (hQ : g 110 2 = (P : Int)) (hfr : g (17 + 2 * W) 5 = fr) (hge : N ≤ k) (h : zr sv L (n + 1) 91 75 lf [] g o) (hl0 : lf 0 = (4, 110)) (hl3 : lf 3 = (2, sd)) (hl5 : lf 5 = (0, li)) (hl6 : lf 6 = (0, (k : Int))) : ((ban fr li = 0) ∧ (o = (cup g 110 5 0, none))) ∨ ((ban fr li ≠ 0) ∧ (o = (cup g 110 5 1, none))) := by
  rw [zov hl0, zov hl3, zov hl5, zov hl6] at h
  have h := zm1 zy_91 h 4 (q := (cond (crel .ge ((k : Int)) (g 3 9)) 218 87, dset (dset (dset (dset lf 6 (0, (k : Int))) 5 (0, li)) 3 (2, sd)) 0 (4, 110), [], g)) rfl
  dsimp only at h
  try rw [hN] at h
  rcases zif_ge h with ⟨hc1, h⟩ | ⟨hc1, h⟩
  · have h := zm zy_91 h 6 (q := (230, dset (dset (dset (dset lf 6 (0, (k : Int))) 5 (0, li)) 3 (2, sd)) 0 (4, 110), [(0, g 110 1), (4, 6), (4, 110)], g)) rfl
    dsimp only at h
    try rw [hW] at h
    have h := zald zy_91 h rfl rfl (dvp_6 (i := (W : Int)) (by omega) (by omega))
    dsimp only at h
    have h := zgf zy_91 h rfl rfl (dvf_17_5 (i := (W : Int)) (by omega) (by omega))
    dsimp only at h
    try rw [show (17 + 2 * ((W : Int))).toNat = 17 + 2 * W from by omega] at h
    try rw [hfr] at h
    have h := zm zy_91 h 3 (q := (cond (crel .eq (ban fr li) 0) 244 240, dset (dset (dset (dset lf 6 (0, (k : Int))) 5 (0, li)) 3 (2, sd)) 0 (4, 110), [(4, 110)], g)) rfl
    dsimp only at h
    rcases zif_eq h with ⟨hc2, h⟩ | ⟨hc2, h⟩
    · have h := zm zy_91 h 2 (q := (248, dset (dset (dset (dset lf 6 (0, (k : Int))) 5 (0, li)) 3 (2, sd)) 0 (4, 110), [], cup g 110 5 0)) rfl
      dsimp only at h
      refine Or.inl (⟨hc2, ?_⟩)
      exact zret zy_91 h rfl rfl
    · have h := zm zy_91 h 3 (q := (248, dset (dset (dset (dset lf 6 (0, (k : Int))) 5 (0, li)) 3 (2, sd)) 0 (4, 110), [], cup g 110 5 1)) rfl
      dsimp only at h
      refine Or.inr (⟨hc2, ?_⟩)
      exact zret zy_91 h rfl rfl
  · exact absurd hc1 (by omega)
theorem t_hear_110 {sv : Nat → Int32} {L n : Nat} {lf : dlf} {g : cg} {o : cg × Option cv} {W P w p q t k x y : Nat} {f s b tw : Int} (rW : W ≤ 5) (rP : P ≤ 5) (rw : w ≤ 5) (rp : p ≤ 5) (rq : q ≤ 4) (rt : t ≤ 7) (rk : k ≤ 15) (rx : x ≤ 15) (ry : y ≤ 15) (hW : g 110 1 = (W : Int)) (hQ : g 110 2 = (P : Int)) (hO : OHC g k w p q t f s b) (htw : g (17 + 2 * W) 4 = tw) (hx : g 111 t = (x : Int)) (hy : g 112 (q + 5 * t) = (y : Int)) (h : zr sv L n 93 0 lf [] g o) (hl0 : lf 0 = (4, 110)) (hl1 : lf 1 = (4, 29 + ((k : Int)))) : (((w : Int) ≠ (W : Int) ∧ (w : Int) ≠ tw) ∧ (o = (cup (cup g 111 t (1 + (x : Int))) 112 (q + 5 * t) (1 + (y : Int)), none))) ∨ (((w : Int) ≠ (W : Int) ∧ (w : Int) = tw) ∧ (o = (cup (cup (cup g 111 t (1 + (x : Int))) 112 (q + 5 * t) (1 + (y : Int))) 110 8 (lor (g 110 8) (lsl 1 ((q : Int) + 5 * (t : Int)))), none))) ∨ (((w : Int) = (W : Int)) ∧ (o = (cup g 110 3 (bor (g 110 3) (bsl 1 ((t : Int)))), none))) := by
  rw [zov hl0, zov hl1] at h
  have h := zm zy_93 h 1 (q := (1, dset (dset lf 1 (4, 29 + ((k : Int)))) 0 (4, 110), [(4, 29 + ((k : Int)))], g)) rfl
  dsimp only at h
  have h := zgf zy_93 h rfl rfl (dvf_29_0 (i := (k : Int)) (by omega) (by omega))
  dsimp only at h
  try rw [show (29 + ((k : Int))).toNat = 29 + k from by omega] at h
  try rw [hO.1] at h
  have h := zm zy_93 h 3 (q := (cond (crel .ne ((w : Int)) (g 110 1)) 27 11, dset (dset lf 1 (4, 29 + ((k : Int)))) 0 (4, 110), [], g)) rfl
  dsimp only at h
  try rw [hW] at h
  rcases zif_ne h with ⟨hc1, h⟩ | ⟨hc1, h⟩
  · have h := zm zy_93 h 1 (q := (28, dset (dset lf 1 (4, 29 + ((k : Int)))) 0 (4, 110), [(4, 29 + ((k : Int)))], g)) rfl
    dsimp only at h
    have h := zgf zy_93 h rfl rfl (dvf_29_3 (i := (k : Int)) (by omega) (by omega))
    dsimp only at h
    try rw [show (29 + ((k : Int))).toNat = 29 + k from by omega] at h
    try rw [hO.2.2.2.1] at h
    have h := zm zy_93 h 3 (q := (34, dset (dset lf 1 (4, 29 + ((k : Int)))) 0 (4, 110), [(4, 29 + ((k : Int))), (0, w32 (((t : Int)) * 5))], g)) rfl
    dsimp only at h
    try rw [w32_eq (z := ((t : Int)) * 5) (v := 5 * (t : Int)) (by omega) (by omega) (by omega)] at h
    have h := zgf zy_93 h rfl rfl (dvf_29_2 (i := (k : Int)) (by omega) (by omega))
    dsimp only at h
    try rw [show (29 + ((k : Int))).toNat = 29 + k from by omega] at h
    try rw [hO.2.2.1] at h
    have h := zm zy_93 h 5 (q := (44, dset (dset (dset lf 1 (4, 29 + ((k : Int)))) 0 (4, 110)) 2 (0, w32 ((5 * (t : Int)) + ((q : Int)))), [(4, 29 + ((k : Int))), (4, 111)], g)) rfl
    dsimp only at h
    try rw [w32_eq (z := (5 * (t : Int)) + ((q : Int))) (v := (q : Int) + 5 * (t : Int)) (by omega) (by omega) (by omega)] at h
    have h := zgf zy_93 h rfl rfl (dvf_29_3 (i := (k : Int)) (by omega) (by omega))
    dsimp only at h
    try rw [show (29 + ((k : Int))).toNat = 29 + k from by omega] at h
    try rw [hO.2.2.2.1] at h
    have h := zm zy_93 h 1 (q := (48, dset (dset (dset lf 1 (4, 29 + ((k : Int)))) 0 (4, 110)) 2 (0, (q : Int) + 5 * (t : Int)), [(0, (t : Int)), (4, 111), (0, (t : Int)), (4, 111)], g)) rfl
    dsimp only at h
    have h := zald zy_93 h rfl rfl (dvb_111 (i := (t : Int)) (by omega) (by omega))
    dsimp only at h
    try rw [show ((t : Int)).toNat = t from by omega] at h
    try rw [hx] at h
    have h := zm zy_93 h 7 (q := (58, dset (dset (dset lf 1 (4, 29 + ((k : Int)))) 0 (4, 110)) 2 (0, (q : Int) + 5 * (t : Int)), [(0, (q : Int) + 5 * (t : Int)), (4, 112), (0, (q : Int) + 5 * (t : Int)), (4, 112)], cup g 111 (((t : Int)).toNat) (w32 (((x : Int)) + 1)))) rfl
    dsimp only at h
    try rw [show ((t : Int)).toNat = t from by omega] at h
    try rw [w32_eq (z := ((x : Int)) + 1) (v := 1 + (x : Int)) (by omega) (by omega) (by omega)] at h
    have h := zald zy_93 h rfl rfl (dvb_112 (i := (q : Int) + 5 * (t : Int)) (by omega) (by omega))
    dsimp only at h
    try rw [show ((q : Int) + 5 * (t : Int)).toNat = q + 5 * t from by omega] at h
    try rw [cup_ne (g := g) (k := 111) (j := t) (k' := 112) (j' := q + 5 * t) (by omega)] at h
    try rw [hy] at h
    have h := zm zy_93 h 4 (q := (63, dset (dset (dset lf 1 (4, 29 + ((k : Int)))) 0 (4, 110)) 2 (0, (q : Int) + 5 * (t : Int)), [(4, 29 + ((k : Int)))], cup (cup g 111 t (1 + (x : Int))) 112 (((q : Int) + 5 * (t : Int)).toNat) (w32 (((y : Int)) + 1)))) rfl
    dsimp only at h
    try rw [show ((q : Int) + 5 * (t : Int)).toNat = q + 5 * t from by omega] at h
    try rw [w32_eq (z := ((y : Int)) + 1) (v := 1 + (y : Int)) (by omega) (by omega) (by omega)] at h
    have h := zgf zy_93 h rfl rfl (dvf_29_0 (i := (k : Int)) (by omega) (by omega))
    dsimp only at h
    try rw [show (29 + ((k : Int))).toNat = 29 + k from by omega] at h
    try rw [cup_ne (g := cup g 111 t (1 + (x : Int))) (k := 112) (j := q + 5 * t) (k' := 29 + k) (j' := 0) (by omega)] at h
    try rw [cup_ne (g := g) (k := 111) (j := t) (k' := 29 + k) (j' := 0) (by omega)] at h
    try rw [hO.1] at h
    have h := zm zy_93 h 5 (q := (77, dset (dset (dset lf 1 (4, 29 + ((k : Int)))) 0 (4, 110)) 2 (0, (q : Int) + 5 * (t : Int)), [(0, g 110 1), (4, 6), (0, (w : Int))], cup (cup g 111 t (1 + (x : Int))) 112 (q + 5 * t) (1 + (y : Int)))) rfl
    dsimp only at h
    try rw [hW] at h
    have h := zald zy_93 h rfl rfl (dvp_6 (i := (W : Int)) (by omega) (by omega))
    dsimp only at h
    have h := zgf zy_93 h rfl rfl (dvf_17_4 (i := (W : Int)) (by omega) (by omega))
    dsimp only at h
    try rw [show (17 + 2 * ((W : Int))).toNat = 17 + 2 * W from by omega] at h
    try rw [cup_ne (g := cup g 111 t (1 + (x : Int))) (k := 112) (j := q + 5 * t) (k' := 17 + 2 * W) (j' := 4) (by omega)] at h
    try rw [cup_ne (g := g) (k := 111) (j := t) (k' := 17 + 2 * W) (j' := 4) (by omega)] at h
    try rw [htw] at h
    have h := zm zy_93 h 1 (q := (cond (crel .ne ((w : Int)) tw) 96 84, dset (dset (dset lf 1 (4, 29 + ((k : Int)))) 0 (4, 110)) 2 (0, (q : Int) + 5 * (t : Int)), [], cup (cup g 111 t (1 + (x : Int))) 112 (q + 5 * t) (1 + (y : Int)))) rfl
    dsimp only at h
    rcases zif_ne h with ⟨hc2, h⟩ | ⟨hc2, h⟩
    · refine Or.inl (⟨⟨hc1, hc2⟩, ?_⟩)
      exact zret zy_93 h rfl rfl
    · have h := zm zy_93 h 8 (q := (96, dset (dset (dset lf 1 (4, 29 + ((k : Int)))) 0 (4, 110)) 2 (0, (q : Int) + 5 * (t : Int)), [], cup (cup (cup g 111 t (1 + (x : Int))) 112 (q + 5 * t) (1 + (y : Int))) 110 8 (lor (g 110 8) (lsl 1 ((q : Int) + 5 * (t : Int)))))) rfl
      dsimp only at h
      refine Or.inr (Or.inl (⟨⟨hc1, hc2⟩, ?_⟩))
      exact zret zy_93 h rfl rfl
  · have h := zm zy_93 h 5 (q := (18, dset (dset lf 1 (4, 29 + ((k : Int)))) 0 (4, 110), [(4, 29 + ((k : Int))), (0, 1), (0, g 110 3), (4, 110)], g)) rfl
    dsimp only at h
    have h := zgf zy_93 h rfl rfl (dvf_29_3 (i := (k : Int)) (by omega) (by omega))
    dsimp only at h
    try rw [show (29 + ((k : Int))).toNat = 29 + k from by omega] at h
    try rw [hO.2.2.2.1] at h
    have h := zm zy_93 h 3 (q := (26, dset (dset lf 1 (4, 29 + ((k : Int)))) 0 (4, 110), [], cup g 110 3 (bor (g 110 3) (bsl 1 ((t : Int)))))) rfl
    dsimp only at h
    refine Or.inr (Or.inr (⟨hc1, ?_⟩))
    exact zret zy_93 h rfl rfl
theorem t_price_110 {sv : Nat → Int32} {L n : Nat} {lf : dlf} {g : cg} {o : cg × Option cv} {W P Q T x y : Nat} {bi v : Int} (rW : W ≤ 5) (rP : P ≤ 5) (rQ : Q ≤ 4) (rT : T ≤ 7) (rx : x ≤ 16) (ry : y ≤ 16) (hW : g 110 1 = (W : Int)) (hQ : g 110 2 = (P : Int)) (hv : g (18 + 2 * P) T = v) (hx : g 111 T = (x : Int)) (hy : g 112 (Q + 5 * T) = (y : Int)) (hbi : g (17 + 2 * W) 3 = bi) (h : zr sv L n 96 0 lf [] g o) (hl0 : lf 0 = (4, 110)) (hl1 : lf 1 = (0, (Q : Int))) (hl2 : lf 2 = (0, (T : Int))) : (((bi ≠ 0) ∨ (bi = 0 ∧ v = (Q : Int))) ∧ (o = (g, some (0, 0)))) ∨ ((bi = 0 ∧ v ≠ (Q : Int) ∧ csgn ((lan (lsr (g 110 8) ((Q : Int) + 5 * (T : Int))) 1) - 0) = 0) ∧ (o = (g, some (0, w32 ((g 3 5) + (w32 ((g 3 6) * ((x : Int) - (y : Int))))))))) ∨ ((bi = 0 ∧ v ≠ (Q : Int) ∧ csgn ((lan (lsr (g 110 8) ((Q : Int) + 5 * (T : Int))) 1) - 0) ≠ 0) ∧ (o = (g, some (0, qdi (w32 ((w32 ((g 3 5) + (w32 ((g 3 6) * ((x : Int) - (y : Int)))))) + 1)) 2)))) := by
  rw [zov hl0, zov hl1, zov hl2] at h
  have h := zm zy_96 h 5 (q := (11, dset (dset (dset lf 2 (0, (T : Int))) 1 (0, (Q : Int))) 0 (4, 110), [(0, g 110 1), (4, 6)], g)) rfl
  dsimp only at h
  try rw [hW] at h
  have h := zald zy_96 h rfl rfl (dvp_6 (i := (W : Int)) (by omega) (by omega))
  dsimp only at h
  have h := zgf zy_96 h rfl rfl (dvf_17_3 (i := (W : Int)) (by omega) (by omega))
  dsimp only at h
  try rw [show (17 + 2 * ((W : Int))).toNat = 17 + 2 * W from by omega] at h
  try rw [hbi] at h
  have h := zm zy_96 h 1 (q := (cond (crel .ne bi 0) 34 18, dset (dset (dset lf 2 (0, (T : Int))) 1 (0, (Q : Int))) 0 (4, 110), [], g)) rfl
  dsimp only at h
  rcases zif_ne h with ⟨hc1, h⟩ | ⟨hc1, h⟩
  · have h := zm zy_96 h 1 (q := (35, dset (dset (dset lf 2 (0, (T : Int))) 1 (0, (Q : Int))) 0 (4, 110), [(0, 0)], g)) rfl
    dsimp only at h
    refine Or.inl (⟨Or.inl (hc1), ?_⟩)
    exact zret zy_96 h rfl rfl
  · have h := zm zy_96 h 6 (q := (28, dset (dset (dset lf 2 (0, (T : Int))) 1 (0, (Q : Int))) 0 (4, 110), [(0, (T : Int)), (0, (Q : Int)), (0, g 110 2), (4, 3)], g)) rfl
    dsimp only at h
    try rw [hQ] at h
    obtain ⟨gz2, rz3, hk, h⟩ := zcallI zy_96 h rfl rfl zy_95 zk_95
    dsimp only at hk h
    have hO4 := h
    have h := hk
    clear hk
    have h := zm zy_95 h 3 (q := (5, darg 0 [(4, 3), (0, (P : Int)), (0, (Q : Int)), (0, (T : Int))], [(0, (P : Int)), (4, 6)], g)) rfl
    dsimp only at h
    have h := zald zy_95 h rfl rfl (dvp_6 (i := (P : Int)) (by omega) (by omega))
    dsimp only at h
    have h := zgf zy_95 h rfl rfl (dvf_17_6 (i := (P : Int)) (by omega) (by omega))
    have h := zm zy_95 h 1 (q := (10, darg 0 [(4, 3), (0, (P : Int)), (0, (Q : Int)), (0, (T : Int))], [(0, (T : Int)), (4, 18 + 2 * ((P : Int)))], g)) rfl
    dsimp only at h
    have h := zald zy_95 h rfl rfl (dvr_18 (i := (P : Int)) (j := (T : Int)) (by omega) (by omega) (by omega) (by omega))
    dsimp only at h
    try rw [show (18 + 2 * ((P : Int))).toNat = 18 + 2 * P from by omega] at h
    try rw [show ((T : Int)).toNat = T from by omega] at h
    try rw [hv] at h
    have h := zm zy_95 h 2 (q := (cond (crel .ne v ((Q : Int))) 19 15, darg 0 [(4, 3), (0, (P : Int)), (0, (Q : Int)), (0, (T : Int))], [], g)) rfl
    dsimp only at h
    rcases zif_ne h with ⟨hc5, h⟩ | ⟨hc5, h⟩
    · have h := zm zy_95 h 1 (q := (20, darg 0 [(4, 3), (0, (P : Int)), (0, (Q : Int)), (0, (T : Int))], [(0, 0)], g)) rfl
      dsimp only at h
      have h := zret zy_95 h rfl rfl
      obtain ⟨e1, e2⟩ := oI h
      have h := hO4
      rw [e1, e2] at h
      clear e1 e2
      clear hO4
      have h := zm zy_96 h 10 (q := (53, dset (dset (dset lf 2 (0, (T : Int))) 1 (0, (Q : Int))) 0 (4, 110), [(0, (T : Int)), (0, (Q : Int)), (4, 110), (0, g 3 6), (0, g 3 5)], g)) rfl
      dsimp only at h
      obtain ⟨gz6, rz7, hk, h⟩ := zcallI zy_96 h rfl rfl zy_97 zk_97
      dsimp only at hk h
      have hO8 := h
      have h := hk
      clear hk
      have h := zm zy_97 h 3 (q := (5, darg 0 [(4, 110), (0, (Q : Int)), (0, (T : Int))], [(0, (T : Int)), (4, 111)], g)) rfl
      dsimp only at h
      have h := zald zy_97 h rfl rfl (dvb_111 (i := (T : Int)) (by omega) (by omega))
      dsimp only at h
      try rw [show ((T : Int)).toNat = T from by omega] at h
      try rw [hx] at h
      have h := zm zy_97 h 7 (q := (15, darg 0 [(4, 110), (0, (Q : Int)), (0, (T : Int))], [(0, w32 ((w32 (((T : Int)) * 5)) + ((Q : Int)))), (4, 112), (0, (x : Int))], g)) rfl
      dsimp only at h
      try rw [w32_eq (z := ((T : Int)) * 5) (v := 5 * (T : Int)) (by omega) (by omega) (by omega)] at h
      try rw [w32_eq (z := (5 * (T : Int)) + ((Q : Int))) (v := (Q : Int) + 5 * (T : Int)) (by omega) (by omega) (by omega)] at h
      have h := zald zy_97 h rfl rfl (dvb_112 (i := (Q : Int) + 5 * (T : Int)) (by omega) (by omega))
      dsimp only at h
      try rw [show ((Q : Int) + 5 * (T : Int)).toNat = Q + 5 * T from by omega] at h
      try rw [hy] at h
      have h := zm zy_97 h 1 (q := (17, darg 0 [(4, 110), (0, (Q : Int)), (0, (T : Int))], [(0, w32 (((x : Int)) - ((y : Int))))], g)) rfl
      dsimp only at h
      try rw [w32_eq (z := ((x : Int)) - ((y : Int))) (v := (x : Int) - (y : Int)) (by omega) (by omega) (by omega)] at h
      have h := zret zy_97 h rfl rfl
      obtain ⟨e1, e2⟩ := oI h
      have h := hO8
      rw [e1, e2] at h
      clear e1 e2
      clear hO8
      have h := zm zy_96 h 16 (q := (cond (crel .eq (csgn ((lan (lsr (g 110 8) (w32 ((w32 (((T : Int)) * 5)) + ((Q : Int))))) 1) - 0)) 0) 80 76, dset (dset (dset (dset lf 2 (0, (T : Int))) 1 (0, (Q : Int))) 0 (4, 110)) 3 (0, w32 ((g 3 5) + (w32 ((g 3 6) * ((x : Int) - (y : Int)))))), [], g)) rfl
      dsimp only at h
      try rw [w32_eq (z := ((T : Int)) * 5) (v := 5 * (T : Int)) (by omega) (by omega) (by omega)] at h
      try rw [w32_eq (z := (5 * (T : Int)) + ((Q : Int))) (v := (Q : Int) + 5 * (T : Int)) (by omega) (by omega) (by omega)] at h
      rcases zif_eq h with ⟨hc9, h⟩ | ⟨hc9, h⟩
      · have h := zm zy_96 h 5 (q := (97, dset (dset (dset (dset (dset lf 2 (0, (T : Int))) 1 (0, (Q : Int))) 0 (4, 110)) 3 (0, w32 ((g 3 5) + (w32 ((g 3 6) * ((x : Int) - (y : Int))))))) 4 (0, 0), [(0, w32 ((g 3 5) + (w32 ((g 3 6) * ((x : Int) - (y : Int))))))], g)) rfl
        dsimp only at h
        refine Or.inr (Or.inl (⟨⟨hc1, hc5, hc9⟩, ?_⟩))
        exact zret zy_96 h rfl rfl
      · have h := zm zy_96 h 11 (q := (97, dset (dset (dset (dset (dset lf 2 (0, (T : Int))) 1 (0, (Q : Int))) 0 (4, 110)) 3 (0, w32 ((g 3 5) + (w32 ((g 3 6) * ((x : Int) - (y : Int))))))) 4 (0, 1), [(0, qdi (w32 ((w32 ((g 3 5) + (w32 ((g 3 6) * ((x : Int) - (y : Int)))))) + 1)) 2)], g)) rfl
        dsimp only at h
        refine Or.inr (Or.inr (⟨⟨hc1, hc5, hc9⟩, ?_⟩))
        exact zret zy_96 h rfl rfl
    · have h := zm zy_95 h 2 (q := (20, darg 0 [(4, 3), (0, (P : Int)), (0, (Q : Int)), (0, (T : Int))], [(0, 1)], g)) rfl
      dsimp only at h
      have h := zret zy_95 h rfl rfl
      obtain ⟨e1, e2⟩ := oI h
      have h := hO4
      rw [e1, e2] at h
      clear e1 e2
      clear hO4
      have h := zm zy_96 h 2 (q := (35, dset (dset (dset lf 2 (0, (T : Int))) 1 (0, (Q : Int))) 0 (4, 110), [(0, 0)], g)) rfl
      dsimp only at h
      refine Or.inl (⟨Or.inr (⟨hc1, hc5⟩), ?_⟩)
      exact zret zy_96 h rfl rfl
theorem t_agn_110 {sv : Nat → Int32} {L n : Nat} {lf : dlf} {g : cg} {o : cg × Option cv} {Q T x y : Nat} (rQ : Q ≤ 4) (rT : T ≤ 7) (rx : x ≤ 16) (ry : y ≤ 16) (hx : g 111 T = (x : Int)) (hy : g 112 (Q + 5 * T) = (y : Int)) (h : zr sv L n 97 0 lf [] g o) (hl0 : lf 0 = (4, 110)) (hl1 : lf 1 = (0, (Q : Int))) (hl2 : lf 2 = (0, (T : Int))) : o = (g, some (0, (x : Int) - (y : Int))) := by
  rw [zov hl0, zov hl1, zov hl2] at h
  have h := zm zy_97 h 3 (q := (5, dset (dset (dset lf 2 (0, (T : Int))) 1 (0, (Q : Int))) 0 (4, 110), [(0, (T : Int)), (4, 111)], g)) rfl
  dsimp only at h
  have h := zald zy_97 h rfl rfl (dvb_111 (i := (T : Int)) (by omega) (by omega))
  dsimp only at h
  try rw [show ((T : Int)).toNat = T from by omega] at h
  try rw [hx] at h
  have h := zm zy_97 h 7 (q := (15, dset (dset (dset lf 2 (0, (T : Int))) 1 (0, (Q : Int))) 0 (4, 110), [(0, w32 ((w32 (((T : Int)) * 5)) + ((Q : Int)))), (4, 112), (0, (x : Int))], g)) rfl
  dsimp only at h
  try rw [w32_eq (z := ((T : Int)) * 5) (v := 5 * (T : Int)) (by omega) (by omega) (by omega)] at h
  try rw [w32_eq (z := (5 * (T : Int)) + ((Q : Int))) (v := (Q : Int) + 5 * (T : Int)) (by omega) (by omega) (by omega)] at h
  have h := zald zy_97 h rfl rfl (dvb_112 (i := (Q : Int) + 5 * (T : Int)) (by omega) (by omega))
  dsimp only at h
  try rw [show ((Q : Int) + 5 * (T : Int)).toNat = Q + 5 * T from by omega] at h
  try rw [hy] at h
  have h := zm zy_97 h 1 (q := (17, dset (dset (dset lf 2 (0, (T : Int))) 1 (0, (Q : Int))) 0 (4, 110), [(0, w32 (((x : Int)) - ((y : Int))))], g)) rfl
  dsimp only at h
  try rw [w32_eq (z := ((x : Int)) - ((y : Int))) (v := (x : Int) - (y : Int)) (by omega) (by omega) (by omega)] at h
  exact zret zy_97 h rfl rfl
theorem t_hind_110 {sv : Nat → Int32} {L n : Nat} {lf : dlf} {g : cg} {o : cg × Option cv} {W P Q T N x y : Nat} {v bi pu : Int} (rW : W ≤ 5) (rP : P ≤ 5) (rQ : Q ≤ 4) (rT : T ≤ 7) (rN : N ≤ 16) (rx : x ≤ 16) (ry : y ≤ 16) (hN : g 3 9 = (N : Int)) (hW : g 110 1 = (W : Int)) (hQ : g 110 2 = (P : Int)) (hv : g (18 + 2 * P) T = v) (hx : g 111 T = (x : Int)) (hy : g 112 (Q + 5 * T) = (y : Int)) (hbi : g (17 + 2 * W) 3 = bi) (hpu : g (17 + 2 * W) 1 = pu) (h : zr sv L n 94 0 lf [] g o) (hl0 : lf 0 = (4, 110)) (hl1 : lf 1 = (0, (Q : Int))) (hl2 : lf 2 = (0, (T : Int))) : ((((N : Int) < 16 ∧ ban (bsr (g 110 3) ((T : Int))) 1 = 0 ∧ v ≠ (Q : Int) ∧ v = (-1) ∧ g 110 5 = 0 ∧ bi ≠ 0 ∧ 0 ≤ pu) ∨ ((N : Int) < 16 ∧ ban (bsr (g 110 3) ((T : Int))) 1 = 0 ∧ v ≠ (Q : Int) ∧ v = (-1) ∧ g 110 5 = 0 ∧ bi = 0 ∧ csgn ((lan (lsr (g 110 8) ((Q : Int) + 5 * (T : Int))) 1) - 0) = 0 ∧ w32 ((g 3 5) + (w32 ((g 3 6) * ((x : Int) - (y : Int))))) ≤ pu) ∨ ((N : Int) < 16 ∧ ban (bsr (g 110 3) ((T : Int))) 1 = 0 ∧ v ≠ (Q : Int) ∧ v = (-1) ∧ g 110 5 = 0 ∧ bi = 0 ∧ csgn ((lan (lsr (g 110 8) ((Q : Int) + 5 * (T : Int))) 1) - 0) ≠ 0 ∧ qdi (w32 ((w32 ((g 3 5) + (w32 ((g 3 6) * ((x : Int) - (y : Int)))))) + 1)) 2 ≤ pu) ∨ ((N : Int) < 16 ∧ ban (bsr (g 110 3) ((T : Int))) 1 = 0 ∧ v ≠ (Q : Int) ∧ v ≠ (-1) ∧ g 110 4 ≠ 0 ∧ g 110 5 = 0 ∧ bi ≠ 0 ∧ 0 ≤ pu) ∨ ((N : Int) < 16 ∧ ban (bsr (g 110 3) ((T : Int))) 1 = 0 ∧ v ≠ (Q : Int) ∧ v ≠ (-1) ∧ g 110 4 ≠ 0 ∧ g 110 5 = 0 ∧ bi = 0 ∧ csgn ((lan (lsr (g 110 8) ((Q : Int) + 5 * (T : Int))) 1) - 0) = 0 ∧ w32 ((g 3 5) + (w32 ((g 3 6) * ((x : Int) - (y : Int))))) ≤ pu) ∨ ((N : Int) < 16 ∧ ban (bsr (g 110 3) ((T : Int))) 1 = 0 ∧ v ≠ (Q : Int) ∧ v ≠ (-1) ∧ g 110 4 ≠ 0 ∧ g 110 5 = 0 ∧ bi = 0 ∧ csgn ((lan (lsr (g 110 8) ((Q : Int) + 5 * (T : Int))) 1) - 0) ≠ 0 ∧ qdi (w32 ((w32 ((g 3 5) + (w32 ((g 3 6) * ((x : Int) - (y : Int)))))) + 1)) 2 ≤ pu) ∨ ((N : Int) < 16 ∧ ban (bsr (g 110 3) ((T : Int))) 1 = 0 ∧ v = (Q : Int))) ∧ (o = (g, some (0, 0)))) ∨ ((((N : Int) < 16 ∧ ban (bsr (g 110 3) ((T : Int))) 1 = 0 ∧ v ≠ (Q : Int) ∧ v = (-1) ∧ g 110 5 = 0 ∧ bi ≠ 0 ∧ pu < 0) ∨ ((N : Int) < 16 ∧ ban (bsr (g 110 3) ((T : Int))) 1 = 0 ∧ v ≠ (Q : Int) ∧ v = (-1) ∧ g 110 5 = 0 ∧ bi = 0 ∧ csgn ((lan (lsr (g 110 8) ((Q : Int) + 5 * (T : Int))) 1) - 0) = 0 ∧ pu < w32 ((g 3 5) + (w32 ((g 3 6) * ((x : Int) - (y : Int)))))) ∨ ((N : Int) < 16 ∧ ban (bsr (g 110 3) ((T : Int))) 1 = 0 ∧ v ≠ (Q : Int) ∧ v = (-1) ∧ g 110 5 = 0 ∧ bi = 0 ∧ csgn ((lan (lsr (g 110 8) ((Q : Int) + 5 * (T : Int))) 1) - 0) ≠ 0 ∧ pu < qdi (w32 ((w32 ((g 3 5) + (w32 ((g 3 6) * ((x : Int) - (y : Int)))))) + 1)) 2) ∨ ((N : Int) < 16 ∧ ban (bsr (g 110 3) ((T : Int))) 1 = 0 ∧ v ≠ (Q : Int) ∧ v ≠ (-1) ∧ g 110 4 ≠ 0 ∧ g 110 5 = 0 ∧ bi ≠ 0 ∧ pu < 0) ∨ ((N : Int) < 16 ∧ ban (bsr (g 110 3) ((T : Int))) 1 = 0 ∧ v ≠ (Q : Int) ∧ v ≠ (-1) ∧ g 110 4 ≠ 0 ∧ g 110 5 = 0 ∧ bi = 0 ∧ csgn ((lan (lsr (g 110 8) ((Q : Int) + 5 * (T : Int))) 1) - 0) = 0 ∧ pu < w32 ((g 3 5) + (w32 ((g 3 6) * ((x : Int) - (y : Int)))))) ∨ ((N : Int) < 16 ∧ ban (bsr (g 110 3) ((T : Int))) 1 = 0 ∧ v ≠ (Q : Int) ∧ v ≠ (-1) ∧ g 110 4 ≠ 0 ∧ g 110 5 = 0 ∧ bi = 0 ∧ csgn ((lan (lsr (g 110 8) ((Q : Int) + 5 * (T : Int))) 1) - 0) ≠ 0 ∧ pu < qdi (w32 ((w32 ((g 3 5) + (w32 ((g 3 6) * ((x : Int) - (y : Int)))))) + 1)) 2)) ∧ (o = (g, some (0, 5)))) ∨ ((((N : Int) < 16 ∧ ban (bsr (g 110 3) ((T : Int))) 1 = 0 ∧ v ≠ (Q : Int) ∧ v = (-1) ∧ g 110 5 ≠ 0) ∨ ((N : Int) < 16 ∧ ban (bsr (g 110 3) ((T : Int))) 1 = 0 ∧ v ≠ (Q : Int) ∧ v ≠ (-1) ∧ g 110 4 ≠ 0 ∧ g 110 5 ≠ 0)) ∧ (o = (g, some (0, 4)))) ∨ (((N : Int) < 16 ∧ ban (bsr (g 110 3) ((T : Int))) 1 = 0 ∧ v ≠ (Q : Int) ∧ v ≠ (-1) ∧ g 110 4 = 0) ∧ (o = (g, some (0, 3)))) ∨ (((N : Int) < 16 ∧ ban (bsr (g 110 3) ((T : Int))) 1 ≠ 0) ∧ (o = (g, some (0, 2)))) ∨ ((16 ≤ (N : Int)) ∧ (o = (g, some (0, 1)))) := by
  rw [zov hl0, zov hl1, zov hl2] at h
  have h := zm zy_94 h 5 (q := (cond (crel .lt (g 3 9) 16) 14 12, dset (dset (dset lf 2 (0, (T : Int))) 1 (0, (Q : Int))) 0 (4, 110), [], g)) rfl
  dsimp only at h
  try rw [hN] at h
  rcases zif_lt h with ⟨hc1, h⟩ | ⟨hc1, h⟩
  · have h := zm zy_94 h 7 (q := (cond (crel .eq (ban (bsr (g 110 3) ((T : Int))) 1) 0) 27 25, dset (dset (dset lf 2 (0, (T : Int))) 1 (0, (Q : Int))) 0 (4, 110), [], g)) rfl
    dsimp only at h
    rcases zif_eq h with ⟨hc2, h⟩ | ⟨hc2, h⟩
    · have h := zm zy_94 h 6 (q := (37, dset (dset (dset lf 2 (0, (T : Int))) 1 (0, (Q : Int))) 0 (4, 110), [(0, (T : Int)), (0, (Q : Int)), (0, g 110 2), (4, 3)], g)) rfl
      dsimp only at h
      try rw [hQ] at h
      obtain ⟨gz3, rz4, hk, h⟩ := zcallI zy_94 h rfl rfl zy_95 zk_95
      dsimp only at hk h
      have hO5 := h
      have h := hk
      clear hk
      have h := zm zy_95 h 3 (q := (5, darg 0 [(4, 3), (0, (P : Int)), (0, (Q : Int)), (0, (T : Int))], [(0, (P : Int)), (4, 6)], g)) rfl
      dsimp only at h
      have h := zald zy_95 h rfl rfl (dvp_6 (i := (P : Int)) (by omega) (by omega))
      dsimp only at h
      have h := zgf zy_95 h rfl rfl (dvf_17_6 (i := (P : Int)) (by omega) (by omega))
      have h := zm zy_95 h 1 (q := (10, darg 0 [(4, 3), (0, (P : Int)), (0, (Q : Int)), (0, (T : Int))], [(0, (T : Int)), (4, 18 + 2 * ((P : Int)))], g)) rfl
      dsimp only at h
      have h := zald zy_95 h rfl rfl (dvr_18 (i := (P : Int)) (j := (T : Int)) (by omega) (by omega) (by omega) (by omega))
      dsimp only at h
      try rw [show (18 + 2 * ((P : Int))).toNat = 18 + 2 * P from by omega] at h
      try rw [show ((T : Int)).toNat = T from by omega] at h
      try rw [hv] at h
      have h := zm zy_95 h 2 (q := (cond (crel .ne v ((Q : Int))) 19 15, darg 0 [(4, 3), (0, (P : Int)), (0, (Q : Int)), (0, (T : Int))], [], g)) rfl
      dsimp only at h
      rcases zif_ne h with ⟨hc6, h⟩ | ⟨hc6, h⟩
      · have h := zm zy_95 h 1 (q := (20, darg 0 [(4, 3), (0, (P : Int)), (0, (Q : Int)), (0, (T : Int))], [(0, 0)], g)) rfl
        dsimp only at h
        have h := zret zy_95 h rfl rfl
        obtain ⟨e1, e2⟩ := oI h
        have h := hO5
        rw [e1, e2] at h
        clear e1 e2
        clear hO5
        have h := zm zy_94 h 6 (q := (56, dset (dset (dset lf 2 (0, (T : Int))) 1 (0, (Q : Int))) 0 (4, 110), [(0, g 110 2), (4, 6)], g)) rfl
        dsimp only at h
        try rw [hQ] at h
        have h := zald zy_94 h rfl rfl (dvp_6 (i := (P : Int)) (by omega) (by omega))
        dsimp only at h
        have h := zgf zy_94 h rfl rfl (dvf_17_6 (i := (P : Int)) (by omega) (by omega))
        have h := zm zy_94 h 1 (q := (61, dset (dset (dset lf 2 (0, (T : Int))) 1 (0, (Q : Int))) 0 (4, 110), [(0, (T : Int)), (4, 18 + 2 * ((P : Int)))], g)) rfl
        dsimp only at h
        have h := zald zy_94 h rfl rfl (dvr_18 (i := (P : Int)) (j := (T : Int)) (by omega) (by omega) (by omega) (by omega))
        dsimp only at h
        try rw [show (18 + 2 * ((P : Int))).toNat = 18 + 2 * P from by omega] at h
        try rw [show ((T : Int)).toNat = T from by omega] at h
        try rw [hv] at h
        have h := zm zy_94 h 2 (q := (cond (crel .eq v ((-1))) 75 66, dset (dset (dset lf 2 (0, (T : Int))) 1 (0, (Q : Int))) 0 (4, 110), [], g)) rfl
        dsimp only at h
        rcases zif_eq h with ⟨hc7, h⟩ | ⟨hc7, h⟩
        · have h := zm zy_94 h 3 (q := (cond (crel .eq (g 110 5) 0) 84 82, dset (dset (dset lf 2 (0, (T : Int))) 1 (0, (Q : Int))) 0 (4, 110), [], g)) rfl
          dsimp only at h
          rcases zif_eq h with ⟨hc8, h⟩ | ⟨hc8, h⟩
          · have h := zm zy_94 h 3 (q := (87, dset (dset (dset lf 2 (0, (T : Int))) 1 (0, (Q : Int))) 0 (4, 110), [(0, (T : Int)), (0, (Q : Int)), (4, 110)], g)) rfl
            dsimp only at h
            obtain ⟨gz9, rz10, hk, h⟩ := zcallI zy_94 h rfl rfl zy_96 zk_96
            dsimp only at hk h
            have hO11 := h
            have h := hk
            clear hk
            have h := zm zy_96 h 5 (q := (11, darg 0 [(4, 110), (0, (Q : Int)), (0, (T : Int))], [(0, g 110 1), (4, 6)], g)) rfl
            dsimp only at h
            try rw [hW] at h
            have h := zald zy_96 h rfl rfl (dvp_6 (i := (W : Int)) (by omega) (by omega))
            dsimp only at h
            have h := zgf zy_96 h rfl rfl (dvf_17_3 (i := (W : Int)) (by omega) (by omega))
            dsimp only at h
            try rw [show (17 + 2 * ((W : Int))).toNat = 17 + 2 * W from by omega] at h
            try rw [hbi] at h
            have h := zm zy_96 h 1 (q := (cond (crel .ne bi 0) 34 18, darg 0 [(4, 110), (0, (Q : Int)), (0, (T : Int))], [], g)) rfl
            dsimp only at h
            rcases zif_ne h with ⟨hc12, h⟩ | ⟨hc12, h⟩
            · have h := zm zy_96 h 1 (q := (35, darg 0 [(4, 110), (0, (Q : Int)), (0, (T : Int))], [(0, 0)], g)) rfl
              dsimp only at h
              have h := zret zy_96 h rfl rfl
              obtain ⟨e1, e2⟩ := oI h
              have h := hO11
              rw [e1, e2] at h
              clear e1 e2
              clear hO11
              have h := zm zy_94 h 5 (q := (101, dset (dset (dset lf 2 (0, (T : Int))) 1 (0, (Q : Int))) 0 (4, 110), [(0, g 110 1), (4, 6), (0, 0)], g)) rfl
              dsimp only at h
              try rw [hW] at h
              have h := zald zy_94 h rfl rfl (dvp_6 (i := (W : Int)) (by omega) (by omega))
              dsimp only at h
              have h := zgf zy_94 h rfl rfl (dvf_17_1 (i := (W : Int)) (by omega) (by omega))
              dsimp only at h
              try rw [show (17 + 2 * ((W : Int))).toNat = 17 + 2 * W from by omega] at h
              try rw [hpu] at h
              have h := zm zy_94 h 1 (q := (cond (crel .le 0 pu) 112 108, dset (dset (dset lf 2 (0, (T : Int))) 1 (0, (Q : Int))) 0 (4, 110), [], g)) rfl
              dsimp only at h
              rcases zif_le h with ⟨hc13, h⟩ | ⟨hc13, h⟩
              · have h := zm zy_94 h 1 (q := (113, dset (dset (dset lf 2 (0, (T : Int))) 1 (0, (Q : Int))) 0 (4, 110), [(0, 0)], g)) rfl
                dsimp only at h
                refine Or.inl (⟨Or.inl (⟨hc1, hc2, hc6, hc7, hc8, hc12, hc13⟩), ?_⟩)
                exact zret zy_94 h rfl rfl
              · have h := zm zy_94 h 2 (q := (113, dset (dset (dset lf 2 (0, (T : Int))) 1 (0, (Q : Int))) 0 (4, 110), [(0, 5)], g)) rfl
                dsimp only at h
                refine Or.inr (Or.inl (⟨Or.inl (⟨hc1, hc2, hc6, hc7, hc8, hc12, hc13⟩), ?_⟩))
                exact zret zy_94 h rfl rfl
            · have h := zm zy_96 h 6 (q := (28, darg 0 [(4, 110), (0, (Q : Int)), (0, (T : Int))], [(0, (T : Int)), (0, (Q : Int)), (0, g 110 2), (4, 3)], g)) rfl
              dsimp only at h
              try rw [hQ] at h
              obtain ⟨gz14, rz15, hk, h⟩ := zcallI zy_96 h rfl rfl zy_95 zk_95
              dsimp only at hk h
              have hO16 := h
              have h := hk
              clear hk
              have h := zm zy_95 h 3 (q := (5, darg 0 [(4, 3), (0, (P : Int)), (0, (Q : Int)), (0, (T : Int))], [(0, (P : Int)), (4, 6)], g)) rfl
              dsimp only at h
              have h := zald zy_95 h rfl rfl (dvp_6 (i := (P : Int)) (by omega) (by omega))
              dsimp only at h
              have h := zgf zy_95 h rfl rfl (dvf_17_6 (i := (P : Int)) (by omega) (by omega))
              have h := zm zy_95 h 1 (q := (10, darg 0 [(4, 3), (0, (P : Int)), (0, (Q : Int)), (0, (T : Int))], [(0, (T : Int)), (4, 18 + 2 * ((P : Int)))], g)) rfl
              dsimp only at h
              have h := zald zy_95 h rfl rfl (dvr_18 (i := (P : Int)) (j := (T : Int)) (by omega) (by omega) (by omega) (by omega))
              dsimp only at h
              try rw [show (18 + 2 * ((P : Int))).toNat = 18 + 2 * P from by omega] at h
              try rw [show ((T : Int)).toNat = T from by omega] at h
              try rw [hv] at h
              have h := zm zy_95 h 2 (q := (cond (crel .ne v ((Q : Int))) 19 15, darg 0 [(4, 3), (0, (P : Int)), (0, (Q : Int)), (0, (T : Int))], [], g)) rfl
              dsimp only at h
              rcases zif_ne h with ⟨hc17, h⟩ | ⟨hc17, h⟩
              · have h := zm zy_95 h 1 (q := (20, darg 0 [(4, 3), (0, (P : Int)), (0, (Q : Int)), (0, (T : Int))], [(0, 0)], g)) rfl
                dsimp only at h
                have h := zret zy_95 h rfl rfl
                obtain ⟨e1, e2⟩ := oI h
                have h := hO16
                rw [e1, e2] at h
                clear e1 e2
                clear hO16
                have h := zm zy_96 h 10 (q := (53, darg 0 [(4, 110), (0, (Q : Int)), (0, (T : Int))], [(0, (T : Int)), (0, (Q : Int)), (4, 110), (0, g 3 6), (0, g 3 5)], g)) rfl
                dsimp only at h
                obtain ⟨gz18, rz19, hk, h⟩ := zcallI zy_96 h rfl rfl zy_97 zk_97
                dsimp only at hk h
                have hO20 := h
                have h := hk
                clear hk
                have h := zm zy_97 h 3 (q := (5, darg 0 [(4, 110), (0, (Q : Int)), (0, (T : Int))], [(0, (T : Int)), (4, 111)], g)) rfl
                dsimp only at h
                have h := zald zy_97 h rfl rfl (dvb_111 (i := (T : Int)) (by omega) (by omega))
                dsimp only at h
                try rw [show ((T : Int)).toNat = T from by omega] at h
                try rw [hx] at h
                have h := zm zy_97 h 7 (q := (15, darg 0 [(4, 110), (0, (Q : Int)), (0, (T : Int))], [(0, w32 ((w32 (((T : Int)) * 5)) + ((Q : Int)))), (4, 112), (0, (x : Int))], g)) rfl
                dsimp only at h
                try rw [w32_eq (z := ((T : Int)) * 5) (v := 5 * (T : Int)) (by omega) (by omega) (by omega)] at h
                try rw [w32_eq (z := (5 * (T : Int)) + ((Q : Int))) (v := (Q : Int) + 5 * (T : Int)) (by omega) (by omega) (by omega)] at h
                have h := zald zy_97 h rfl rfl (dvb_112 (i := (Q : Int) + 5 * (T : Int)) (by omega) (by omega))
                dsimp only at h
                try rw [show ((Q : Int) + 5 * (T : Int)).toNat = Q + 5 * T from by omega] at h
                try rw [hy] at h
                have h := zm zy_97 h 1 (q := (17, darg 0 [(4, 110), (0, (Q : Int)), (0, (T : Int))], [(0, w32 (((x : Int)) - ((y : Int))))], g)) rfl
                dsimp only at h
                try rw [w32_eq (z := ((x : Int)) - ((y : Int))) (v := (x : Int) - (y : Int)) (by omega) (by omega) (by omega)] at h
                have h := zret zy_97 h rfl rfl
                obtain ⟨e1, e2⟩ := oI h
                have h := hO20
                rw [e1, e2] at h
                clear e1 e2
                clear hO20
                have h := zm zy_96 h 16 (q := (cond (crel .eq (csgn ((lan (lsr (g 110 8) (w32 ((w32 (((T : Int)) * 5)) + ((Q : Int))))) 1) - 0)) 0) 80 76, dset (darg 0 [(4, 110), (0, (Q : Int)), (0, (T : Int))]) 3 (0, w32 ((g 3 5) + (w32 ((g 3 6) * ((x : Int) - (y : Int)))))), [], g)) rfl
                dsimp only at h
                try rw [w32_eq (z := ((T : Int)) * 5) (v := 5 * (T : Int)) (by omega) (by omega) (by omega)] at h
                try rw [w32_eq (z := (5 * (T : Int)) + ((Q : Int))) (v := (Q : Int) + 5 * (T : Int)) (by omega) (by omega) (by omega)] at h
                rcases zif_eq h with ⟨hc21, h⟩ | ⟨hc21, h⟩
                · have h := zm zy_96 h 5 (q := (97, dset (dset (darg 0 [(4, 110), (0, (Q : Int)), (0, (T : Int))]) 3 (0, w32 ((g 3 5) + (w32 ((g 3 6) * ((x : Int) - (y : Int))))))) 4 (0, 0), [(0, w32 ((g 3 5) + (w32 ((g 3 6) * ((x : Int) - (y : Int))))))], g)) rfl
                  dsimp only at h
                  have h := zret zy_96 h rfl rfl
                  obtain ⟨e1, e2⟩ := oI h
                  have h := hO11
                  rw [e1, e2] at h
                  clear e1 e2
                  clear hO11
                  have h := zm zy_94 h 5 (q := (101, dset (dset (dset lf 2 (0, (T : Int))) 1 (0, (Q : Int))) 0 (4, 110), [(0, g 110 1), (4, 6), (0, w32 ((g 3 5) + (w32 ((g 3 6) * ((x : Int) - (y : Int))))))], g)) rfl
                  dsimp only at h
                  try rw [hW] at h
                  have h := zald zy_94 h rfl rfl (dvp_6 (i := (W : Int)) (by omega) (by omega))
                  dsimp only at h
                  have h := zgf zy_94 h rfl rfl (dvf_17_1 (i := (W : Int)) (by omega) (by omega))
                  dsimp only at h
                  try rw [show (17 + 2 * ((W : Int))).toNat = 17 + 2 * W from by omega] at h
                  try rw [hpu] at h
                  have h := zm zy_94 h 1 (q := (cond (crel .le (w32 ((g 3 5) + (w32 ((g 3 6) * ((x : Int) - (y : Int)))))) pu) 112 108, dset (dset (dset lf 2 (0, (T : Int))) 1 (0, (Q : Int))) 0 (4, 110), [], g)) rfl
                  dsimp only at h
                  rcases zif_le h with ⟨hc22, h⟩ | ⟨hc22, h⟩
                  · have h := zm zy_94 h 1 (q := (113, dset (dset (dset lf 2 (0, (T : Int))) 1 (0, (Q : Int))) 0 (4, 110), [(0, 0)], g)) rfl
                    dsimp only at h
                    refine Or.inl (⟨Or.inr (Or.inl (⟨hc1, hc2, hc6, hc7, hc8, hc12, hc21, hc22⟩)), ?_⟩)
                    exact zret zy_94 h rfl rfl
                  · have h := zm zy_94 h 2 (q := (113, dset (dset (dset lf 2 (0, (T : Int))) 1 (0, (Q : Int))) 0 (4, 110), [(0, 5)], g)) rfl
                    dsimp only at h
                    refine Or.inr (Or.inl (⟨Or.inr (Or.inl (⟨hc1, hc2, hc6, hc7, hc8, hc12, hc21, hc22⟩)), ?_⟩))
                    exact zret zy_94 h rfl rfl
                · have h := zm zy_96 h 11 (q := (97, dset (dset (darg 0 [(4, 110), (0, (Q : Int)), (0, (T : Int))]) 3 (0, w32 ((g 3 5) + (w32 ((g 3 6) * ((x : Int) - (y : Int))))))) 4 (0, 1), [(0, qdi (w32 ((w32 ((g 3 5) + (w32 ((g 3 6) * ((x : Int) - (y : Int)))))) + 1)) 2)], g)) rfl
                  dsimp only at h
                  have h := zret zy_96 h rfl rfl
                  obtain ⟨e1, e2⟩ := oI h
                  have h := hO11
                  rw [e1, e2] at h
                  clear e1 e2
                  clear hO11
                  have h := zm zy_94 h 5 (q := (101, dset (dset (dset lf 2 (0, (T : Int))) 1 (0, (Q : Int))) 0 (4, 110), [(0, g 110 1), (4, 6), (0, qdi (w32 ((w32 ((g 3 5) + (w32 ((g 3 6) * ((x : Int) - (y : Int)))))) + 1)) 2)], g)) rfl
                  dsimp only at h
                  try rw [hW] at h
                  have h := zald zy_94 h rfl rfl (dvp_6 (i := (W : Int)) (by omega) (by omega))
                  dsimp only at h
                  have h := zgf zy_94 h rfl rfl (dvf_17_1 (i := (W : Int)) (by omega) (by omega))
                  dsimp only at h
                  try rw [show (17 + 2 * ((W : Int))).toNat = 17 + 2 * W from by omega] at h
                  try rw [hpu] at h
                  have h := zm zy_94 h 1 (q := (cond (crel .le (qdi (w32 ((w32 ((g 3 5) + (w32 ((g 3 6) * ((x : Int) - (y : Int)))))) + 1)) 2) pu) 112 108, dset (dset (dset lf 2 (0, (T : Int))) 1 (0, (Q : Int))) 0 (4, 110), [], g)) rfl
                  dsimp only at h
                  rcases zif_le h with ⟨hc23, h⟩ | ⟨hc23, h⟩
                  · have h := zm zy_94 h 1 (q := (113, dset (dset (dset lf 2 (0, (T : Int))) 1 (0, (Q : Int))) 0 (4, 110), [(0, 0)], g)) rfl
                    dsimp only at h
                    refine Or.inl (⟨Or.inr (Or.inr (Or.inl (⟨hc1, hc2, hc6, hc7, hc8, hc12, hc21, hc23⟩))), ?_⟩)
                    exact zret zy_94 h rfl rfl
                  · have h := zm zy_94 h 2 (q := (113, dset (dset (dset lf 2 (0, (T : Int))) 1 (0, (Q : Int))) 0 (4, 110), [(0, 5)], g)) rfl
                    dsimp only at h
                    refine Or.inr (Or.inl (⟨Or.inr (Or.inr (Or.inl (⟨hc1, hc2, hc6, hc7, hc8, hc12, hc21, hc23⟩))), ?_⟩))
                    exact zret zy_94 h rfl rfl
              · exact absurd hc17 (by omega)
          · have h := zm zy_94 h 1 (q := (83, dset (dset (dset lf 2 (0, (T : Int))) 1 (0, (Q : Int))) 0 (4, 110), [(0, 4)], g)) rfl
            dsimp only at h
            refine Or.inr (Or.inr (Or.inl (⟨Or.inl (⟨hc1, hc2, hc6, hc7, hc8⟩), ?_⟩)))
            exact zret zy_94 h rfl rfl
        · have h := zm zy_94 h 3 (q := (cond (crel .ne (g 110 4) 0) 75 73, dset (dset (dset lf 2 (0, (T : Int))) 1 (0, (Q : Int))) 0 (4, 110), [], g)) rfl
          dsimp only at h
          rcases zif_ne h with ⟨hc24, h⟩ | ⟨hc24, h⟩
          · have h := zm zy_94 h 3 (q := (cond (crel .eq (g 110 5) 0) 84 82, dset (dset (dset lf 2 (0, (T : Int))) 1 (0, (Q : Int))) 0 (4, 110), [], g)) rfl
            dsimp only at h
            rcases zif_eq h with ⟨hc25, h⟩ | ⟨hc25, h⟩
            · have h := zm zy_94 h 3 (q := (87, dset (dset (dset lf 2 (0, (T : Int))) 1 (0, (Q : Int))) 0 (4, 110), [(0, (T : Int)), (0, (Q : Int)), (4, 110)], g)) rfl
              dsimp only at h
              obtain ⟨gz26, rz27, hk, h⟩ := zcallI zy_94 h rfl rfl zy_96 zk_96
              dsimp only at hk h
              have hO28 := h
              have h := hk
              clear hk
              have h := zm zy_96 h 5 (q := (11, darg 0 [(4, 110), (0, (Q : Int)), (0, (T : Int))], [(0, g 110 1), (4, 6)], g)) rfl
              dsimp only at h
              try rw [hW] at h
              have h := zald zy_96 h rfl rfl (dvp_6 (i := (W : Int)) (by omega) (by omega))
              dsimp only at h
              have h := zgf zy_96 h rfl rfl (dvf_17_3 (i := (W : Int)) (by omega) (by omega))
              dsimp only at h
              try rw [show (17 + 2 * ((W : Int))).toNat = 17 + 2 * W from by omega] at h
              try rw [hbi] at h
              have h := zm zy_96 h 1 (q := (cond (crel .ne bi 0) 34 18, darg 0 [(4, 110), (0, (Q : Int)), (0, (T : Int))], [], g)) rfl
              dsimp only at h
              rcases zif_ne h with ⟨hc29, h⟩ | ⟨hc29, h⟩
              · have h := zm zy_96 h 1 (q := (35, darg 0 [(4, 110), (0, (Q : Int)), (0, (T : Int))], [(0, 0)], g)) rfl
                dsimp only at h
                have h := zret zy_96 h rfl rfl
                obtain ⟨e1, e2⟩ := oI h
                have h := hO28
                rw [e1, e2] at h
                clear e1 e2
                clear hO28
                have h := zm zy_94 h 5 (q := (101, dset (dset (dset lf 2 (0, (T : Int))) 1 (0, (Q : Int))) 0 (4, 110), [(0, g 110 1), (4, 6), (0, 0)], g)) rfl
                dsimp only at h
                try rw [hW] at h
                have h := zald zy_94 h rfl rfl (dvp_6 (i := (W : Int)) (by omega) (by omega))
                dsimp only at h
                have h := zgf zy_94 h rfl rfl (dvf_17_1 (i := (W : Int)) (by omega) (by omega))
                dsimp only at h
                try rw [show (17 + 2 * ((W : Int))).toNat = 17 + 2 * W from by omega] at h
                try rw [hpu] at h
                have h := zm zy_94 h 1 (q := (cond (crel .le 0 pu) 112 108, dset (dset (dset lf 2 (0, (T : Int))) 1 (0, (Q : Int))) 0 (4, 110), [], g)) rfl
                dsimp only at h
                rcases zif_le h with ⟨hc30, h⟩ | ⟨hc30, h⟩
                · have h := zm zy_94 h 1 (q := (113, dset (dset (dset lf 2 (0, (T : Int))) 1 (0, (Q : Int))) 0 (4, 110), [(0, 0)], g)) rfl
                  dsimp only at h
                  refine Or.inl (⟨Or.inr (Or.inr (Or.inr (Or.inl (⟨hc1, hc2, hc6, hc7, hc24, hc25, hc29, hc30⟩)))), ?_⟩)
                  exact zret zy_94 h rfl rfl
                · have h := zm zy_94 h 2 (q := (113, dset (dset (dset lf 2 (0, (T : Int))) 1 (0, (Q : Int))) 0 (4, 110), [(0, 5)], g)) rfl
                  dsimp only at h
                  refine Or.inr (Or.inl (⟨Or.inr (Or.inr (Or.inr (Or.inl (⟨hc1, hc2, hc6, hc7, hc24, hc25, hc29, hc30⟩)))), ?_⟩))
                  exact zret zy_94 h rfl rfl
              · have h := zm zy_96 h 6 (q := (28, darg 0 [(4, 110), (0, (Q : Int)), (0, (T : Int))], [(0, (T : Int)), (0, (Q : Int)), (0, g 110 2), (4, 3)], g)) rfl
                dsimp only at h
                try rw [hQ] at h
                obtain ⟨gz31, rz32, hk, h⟩ := zcallI zy_96 h rfl rfl zy_95 zk_95
                dsimp only at hk h
                have hO33 := h
                have h := hk
                clear hk
                have h := zm zy_95 h 3 (q := (5, darg 0 [(4, 3), (0, (P : Int)), (0, (Q : Int)), (0, (T : Int))], [(0, (P : Int)), (4, 6)], g)) rfl
                dsimp only at h
                have h := zald zy_95 h rfl rfl (dvp_6 (i := (P : Int)) (by omega) (by omega))
                dsimp only at h
                have h := zgf zy_95 h rfl rfl (dvf_17_6 (i := (P : Int)) (by omega) (by omega))
                have h := zm zy_95 h 1 (q := (10, darg 0 [(4, 3), (0, (P : Int)), (0, (Q : Int)), (0, (T : Int))], [(0, (T : Int)), (4, 18 + 2 * ((P : Int)))], g)) rfl
                dsimp only at h
                have h := zald zy_95 h rfl rfl (dvr_18 (i := (P : Int)) (j := (T : Int)) (by omega) (by omega) (by omega) (by omega))
                dsimp only at h
                try rw [show (18 + 2 * ((P : Int))).toNat = 18 + 2 * P from by omega] at h
                try rw [show ((T : Int)).toNat = T from by omega] at h
                try rw [hv] at h
                have h := zm zy_95 h 2 (q := (cond (crel .ne v ((Q : Int))) 19 15, darg 0 [(4, 3), (0, (P : Int)), (0, (Q : Int)), (0, (T : Int))], [], g)) rfl
                dsimp only at h
                rcases zif_ne h with ⟨hc34, h⟩ | ⟨hc34, h⟩
                · have h := zm zy_95 h 1 (q := (20, darg 0 [(4, 3), (0, (P : Int)), (0, (Q : Int)), (0, (T : Int))], [(0, 0)], g)) rfl
                  dsimp only at h
                  have h := zret zy_95 h rfl rfl
                  obtain ⟨e1, e2⟩ := oI h
                  have h := hO33
                  rw [e1, e2] at h
                  clear e1 e2
                  clear hO33
                  have h := zm zy_96 h 10 (q := (53, darg 0 [(4, 110), (0, (Q : Int)), (0, (T : Int))], [(0, (T : Int)), (0, (Q : Int)), (4, 110), (0, g 3 6), (0, g 3 5)], g)) rfl
                  dsimp only at h
                  obtain ⟨gz35, rz36, hk, h⟩ := zcallI zy_96 h rfl rfl zy_97 zk_97
                  dsimp only at hk h
                  have hO37 := h
                  have h := hk
                  clear hk
                  have h := zm zy_97 h 3 (q := (5, darg 0 [(4, 110), (0, (Q : Int)), (0, (T : Int))], [(0, (T : Int)), (4, 111)], g)) rfl
                  dsimp only at h
                  have h := zald zy_97 h rfl rfl (dvb_111 (i := (T : Int)) (by omega) (by omega))
                  dsimp only at h
                  try rw [show ((T : Int)).toNat = T from by omega] at h
                  try rw [hx] at h
                  have h := zm zy_97 h 7 (q := (15, darg 0 [(4, 110), (0, (Q : Int)), (0, (T : Int))], [(0, w32 ((w32 (((T : Int)) * 5)) + ((Q : Int)))), (4, 112), (0, (x : Int))], g)) rfl
                  dsimp only at h
                  try rw [w32_eq (z := ((T : Int)) * 5) (v := 5 * (T : Int)) (by omega) (by omega) (by omega)] at h
                  try rw [w32_eq (z := (5 * (T : Int)) + ((Q : Int))) (v := (Q : Int) + 5 * (T : Int)) (by omega) (by omega) (by omega)] at h
                  have h := zald zy_97 h rfl rfl (dvb_112 (i := (Q : Int) + 5 * (T : Int)) (by omega) (by omega))
                  dsimp only at h
                  try rw [show ((Q : Int) + 5 * (T : Int)).toNat = Q + 5 * T from by omega] at h
                  try rw [hy] at h
                  have h := zm zy_97 h 1 (q := (17, darg 0 [(4, 110), (0, (Q : Int)), (0, (T : Int))], [(0, w32 (((x : Int)) - ((y : Int))))], g)) rfl
                  dsimp only at h
                  try rw [w32_eq (z := ((x : Int)) - ((y : Int))) (v := (x : Int) - (y : Int)) (by omega) (by omega) (by omega)] at h
                  have h := zret zy_97 h rfl rfl
                  obtain ⟨e1, e2⟩ := oI h
                  have h := hO37
                  rw [e1, e2] at h
                  clear e1 e2
                  clear hO37
                  have h := zm zy_96 h 16 (q := (cond (crel .eq (csgn ((lan (lsr (g 110 8) (w32 ((w32 (((T : Int)) * 5)) + ((Q : Int))))) 1) - 0)) 0) 80 76, dset (darg 0 [(4, 110), (0, (Q : Int)), (0, (T : Int))]) 3 (0, w32 ((g 3 5) + (w32 ((g 3 6) * ((x : Int) - (y : Int)))))), [], g)) rfl
                  dsimp only at h
                  try rw [w32_eq (z := ((T : Int)) * 5) (v := 5 * (T : Int)) (by omega) (by omega) (by omega)] at h
                  try rw [w32_eq (z := (5 * (T : Int)) + ((Q : Int))) (v := (Q : Int) + 5 * (T : Int)) (by omega) (by omega) (by omega)] at h
                  rcases zif_eq h with ⟨hc38, h⟩ | ⟨hc38, h⟩
                  · have h := zm zy_96 h 5 (q := (97, dset (dset (darg 0 [(4, 110), (0, (Q : Int)), (0, (T : Int))]) 3 (0, w32 ((g 3 5) + (w32 ((g 3 6) * ((x : Int) - (y : Int))))))) 4 (0, 0), [(0, w32 ((g 3 5) + (w32 ((g 3 6) * ((x : Int) - (y : Int))))))], g)) rfl
                    dsimp only at h
                    have h := zret zy_96 h rfl rfl
                    obtain ⟨e1, e2⟩ := oI h
                    have h := hO28
                    rw [e1, e2] at h
                    clear e1 e2
                    clear hO28
                    have h := zm zy_94 h 5 (q := (101, dset (dset (dset lf 2 (0, (T : Int))) 1 (0, (Q : Int))) 0 (4, 110), [(0, g 110 1), (4, 6), (0, w32 ((g 3 5) + (w32 ((g 3 6) * ((x : Int) - (y : Int))))))], g)) rfl
                    dsimp only at h
                    try rw [hW] at h
                    have h := zald zy_94 h rfl rfl (dvp_6 (i := (W : Int)) (by omega) (by omega))
                    dsimp only at h
                    have h := zgf zy_94 h rfl rfl (dvf_17_1 (i := (W : Int)) (by omega) (by omega))
                    dsimp only at h
                    try rw [show (17 + 2 * ((W : Int))).toNat = 17 + 2 * W from by omega] at h
                    try rw [hpu] at h
                    have h := zm zy_94 h 1 (q := (cond (crel .le (w32 ((g 3 5) + (w32 ((g 3 6) * ((x : Int) - (y : Int)))))) pu) 112 108, dset (dset (dset lf 2 (0, (T : Int))) 1 (0, (Q : Int))) 0 (4, 110), [], g)) rfl
                    dsimp only at h
                    rcases zif_le h with ⟨hc39, h⟩ | ⟨hc39, h⟩
                    · have h := zm zy_94 h 1 (q := (113, dset (dset (dset lf 2 (0, (T : Int))) 1 (0, (Q : Int))) 0 (4, 110), [(0, 0)], g)) rfl
                      dsimp only at h
                      refine Or.inl (⟨Or.inr (Or.inr (Or.inr (Or.inr (Or.inl (⟨hc1, hc2, hc6, hc7, hc24, hc25, hc29, hc38, hc39⟩))))), ?_⟩)
                      exact zret zy_94 h rfl rfl
                    · have h := zm zy_94 h 2 (q := (113, dset (dset (dset lf 2 (0, (T : Int))) 1 (0, (Q : Int))) 0 (4, 110), [(0, 5)], g)) rfl
                      dsimp only at h
                      refine Or.inr (Or.inl (⟨Or.inr (Or.inr (Or.inr (Or.inr (Or.inl (⟨hc1, hc2, hc6, hc7, hc24, hc25, hc29, hc38, hc39⟩))))), ?_⟩))
                      exact zret zy_94 h rfl rfl
                  · have h := zm zy_96 h 11 (q := (97, dset (dset (darg 0 [(4, 110), (0, (Q : Int)), (0, (T : Int))]) 3 (0, w32 ((g 3 5) + (w32 ((g 3 6) * ((x : Int) - (y : Int))))))) 4 (0, 1), [(0, qdi (w32 ((w32 ((g 3 5) + (w32 ((g 3 6) * ((x : Int) - (y : Int)))))) + 1)) 2)], g)) rfl
                    dsimp only at h
                    have h := zret zy_96 h rfl rfl
                    obtain ⟨e1, e2⟩ := oI h
                    have h := hO28
                    rw [e1, e2] at h
                    clear e1 e2
                    clear hO28
                    have h := zm zy_94 h 5 (q := (101, dset (dset (dset lf 2 (0, (T : Int))) 1 (0, (Q : Int))) 0 (4, 110), [(0, g 110 1), (4, 6), (0, qdi (w32 ((w32 ((g 3 5) + (w32 ((g 3 6) * ((x : Int) - (y : Int)))))) + 1)) 2)], g)) rfl
                    dsimp only at h
                    try rw [hW] at h
                    have h := zald zy_94 h rfl rfl (dvp_6 (i := (W : Int)) (by omega) (by omega))
                    dsimp only at h
                    have h := zgf zy_94 h rfl rfl (dvf_17_1 (i := (W : Int)) (by omega) (by omega))
                    dsimp only at h
                    try rw [show (17 + 2 * ((W : Int))).toNat = 17 + 2 * W from by omega] at h
                    try rw [hpu] at h
                    have h := zm zy_94 h 1 (q := (cond (crel .le (qdi (w32 ((w32 ((g 3 5) + (w32 ((g 3 6) * ((x : Int) - (y : Int)))))) + 1)) 2) pu) 112 108, dset (dset (dset lf 2 (0, (T : Int))) 1 (0, (Q : Int))) 0 (4, 110), [], g)) rfl
                    dsimp only at h
                    rcases zif_le h with ⟨hc40, h⟩ | ⟨hc40, h⟩
                    · have h := zm zy_94 h 1 (q := (113, dset (dset (dset lf 2 (0, (T : Int))) 1 (0, (Q : Int))) 0 (4, 110), [(0, 0)], g)) rfl
                      dsimp only at h
                      refine Or.inl (⟨Or.inr (Or.inr (Or.inr (Or.inr (Or.inr (Or.inl (⟨hc1, hc2, hc6, hc7, hc24, hc25, hc29, hc38, hc40⟩)))))), ?_⟩)
                      exact zret zy_94 h rfl rfl
                    · have h := zm zy_94 h 2 (q := (113, dset (dset (dset lf 2 (0, (T : Int))) 1 (0, (Q : Int))) 0 (4, 110), [(0, 5)], g)) rfl
                      dsimp only at h
                      refine Or.inr (Or.inl (⟨Or.inr (Or.inr (Or.inr (Or.inr (Or.inr (⟨hc1, hc2, hc6, hc7, hc24, hc25, hc29, hc38, hc40⟩))))), ?_⟩))
                      exact zret zy_94 h rfl rfl
                · exact absurd hc34 (by omega)
            · have h := zm zy_94 h 1 (q := (83, dset (dset (dset lf 2 (0, (T : Int))) 1 (0, (Q : Int))) 0 (4, 110), [(0, 4)], g)) rfl
              dsimp only at h
              refine Or.inr (Or.inr (Or.inl (⟨Or.inr (⟨hc1, hc2, hc6, hc7, hc24, hc25⟩), ?_⟩)))
              exact zret zy_94 h rfl rfl
          · have h := zm zy_94 h 1 (q := (74, dset (dset (dset lf 2 (0, (T : Int))) 1 (0, (Q : Int))) 0 (4, 110), [(0, 3)], g)) rfl
            dsimp only at h
            refine Or.inr (Or.inr (Or.inr (Or.inl (⟨⟨hc1, hc2, hc6, hc7, hc24⟩, ?_⟩))))
            exact zret zy_94 h rfl rfl
      · have h := zm zy_95 h 2 (q := (20, darg 0 [(4, 3), (0, (P : Int)), (0, (Q : Int)), (0, (T : Int))], [(0, 1)], g)) rfl
        dsimp only at h
        have h := zret zy_95 h rfl rfl
        obtain ⟨e1, e2⟩ := oI h
        have h := hO5
        rw [e1, e2] at h
        clear e1 e2
        clear hO5
        have h := zm zy_94 h 2 (q := (44, dset (dset (dset lf 2 (0, (T : Int))) 1 (0, (Q : Int))) 0 (4, 110), [(0, 0)], g)) rfl
        dsimp only at h
        refine Or.inl (⟨Or.inr (Or.inr (Or.inr (Or.inr (Or.inr (Or.inr (⟨hc1, hc2, hc6⟩)))))), ?_⟩)
        exact zret zy_94 h rfl rfl
    · have h := zm zy_94 h 1 (q := (26, dset (dset (dset lf 2 (0, (T : Int))) 1 (0, (Q : Int))) 0 (4, 110), [(0, 2)], g)) rfl
      dsimp only at h
      refine Or.inr (Or.inr (Or.inr (Or.inr (Or.inl (⟨⟨hc1, hc2⟩, ?_⟩)))))
      exact zret zy_94 h rfl rfl
  · have h := zm zy_94 h 1 (q := (13, dset (dset (dset lf 2 (0, (T : Int))) 1 (0, (Q : Int))) 0 (4, 110), [(0, 1)], g)) rfl
    dsimp only at h
    refine Or.inr (Or.inr (Or.inr (Or.inr (Or.inr (⟨hc1, ?_⟩)))))
    exact zret zy_94 h rfl rfl
theorem t_liv {sv : Nat → Int32} {L n : Nat} {lf : dlf} {g : cg} {o : cg × Option cv} {a : Int} (h : zr sv L n 361 0 lf [] g o) (hl0 : lf 0 = (4, 0)) (hl1 : lf 1 = (0, a)) : (((a < 0) ∨ (0 ≤ a ∧ 9999 < a)) ∧ (o = (cup g 0 0 1, some (0, (-1))))) ∨ ((0 ≤ a ∧ a ≤ 9999 ∧ g 8 0 ≠ 0) ∧ (∃ g_1, zr sv L n 147 0 (darg 0 [(4, 107), (0, a), (0, w32 ((g 0 17) + 1))]) [] (cup g 0 17 (w32 ((g 0 17) + 1))) (g_1, none) ∧ (o = (cup g_1 0 0 0, some (0, g_1 107 7))))) ∨ ((0 ≤ a ∧ a ≤ 9999 ∧ g 8 0 = 0) ∧ (o = (cup g 0 0 6, some (0, (-1))))) := by
  rw [zov hl0, zov hl1] at h
  have h := zm zy_361 h 3 (q := (5, dset (dset lf 1 (0, a)) 0 (4, 0), [(0, 9999), (0, 0), (0, a)], g)) rfl
  dsimp only at h
  obtain ⟨gz1, rz2, hk, h⟩ := zcallI zy_361 h rfl rfl zy_23 zk_23
  dsimp only at hk h
  have hO3 := h
  have h := hk
  clear hk
  have h := zm zy_23 h 3 (q := (cond (crel .lt a 0) 14 5, darg 0 [(0, a), (0, 0), (0, 9999)], [], g)) rfl
  dsimp only at h
  rcases zif_lt h with ⟨hc4, h⟩ | ⟨hc4, h⟩
  · have h := zm zy_23 h 1 (q := (15, darg 0 [(0, a), (0, 0), (0, 9999)], [(0, 0)], g)) rfl
    dsimp only at h
    have h := zret zy_23 h rfl rfl
    obtain ⟨e1, e2⟩ := oI h
    have h := hO3
    rw [e1, e2] at h
    clear e1 e2
    clear hO3
    have h := zm zy_361 h 3 (q := (13, dset (dset lf 1 (0, a)) 0 (4, 0), [(0, 1), (4, 0)], g)) rfl
    dsimp only at h
    obtain ⟨gz5, rz6, hk, h⟩ := zcallI zy_361 h rfl rfl zy_29 zk_29
    dsimp only at hk h
    have hO7 := h
    have h := hk
    clear hk
    have h := zm zy_29 h 4 (q := (6, darg 0 [(4, 0), (0, 1)], [(0, (-1))], cup g 0 0 1)) rfl
    dsimp only at h
    have h := zret zy_29 h rfl rfl
    obtain ⟨e1, e2⟩ := oI h
    have h := hO7
    rw [e1, e2] at h
    clear e1 e2
    clear hO7
    refine Or.inl (⟨Or.inl (hc4), ?_⟩)
    exact zret zy_361 h rfl rfl
  · have h := zm zy_23 h 3 (q := (cond (crel .gt a 9999) 14 10, darg 0 [(0, a), (0, 0), (0, 9999)], [], g)) rfl
    dsimp only at h
    rcases zif_gt h with ⟨hc8, h⟩ | ⟨hc8, h⟩
    · have h := zm zy_23 h 1 (q := (15, darg 0 [(0, a), (0, 0), (0, 9999)], [(0, 0)], g)) rfl
      dsimp only at h
      have h := zret zy_23 h rfl rfl
      obtain ⟨e1, e2⟩ := oI h
      have h := hO3
      rw [e1, e2] at h
      clear e1 e2
      clear hO3
      have h := zm zy_361 h 3 (q := (13, dset (dset lf 1 (0, a)) 0 (4, 0), [(0, 1), (4, 0)], g)) rfl
      dsimp only at h
      obtain ⟨gz9, rz10, hk, h⟩ := zcallI zy_361 h rfl rfl zy_29 zk_29
      dsimp only at hk h
      have hO11 := h
      have h := hk
      clear hk
      have h := zm zy_29 h 4 (q := (6, darg 0 [(4, 0), (0, 1)], [(0, (-1))], cup g 0 0 1)) rfl
      dsimp only at h
      have h := zret zy_29 h rfl rfl
      obtain ⟨e1, e2⟩ := oI h
      have h := hO11
      rw [e1, e2] at h
      clear e1 e2
      clear hO11
      refine Or.inl (⟨Or.inr (⟨hc4, hc8⟩), ?_⟩)
      exact zret zy_361 h rfl rfl
    · have h := zm zy_23 h 2 (q := (15, darg 0 [(0, a), (0, 0), (0, 9999)], [(0, 1)], g)) rfl
      dsimp only at h
      have h := zret zy_23 h rfl rfl
      obtain ⟨e1, e2⟩ := oI h
      have h := hO3
      rw [e1, e2] at h
      clear e1 e2
      clear hO3
      have h := zm zy_361 h 6 (q := (cond (crel .ne (g 8 0) 0) 37 30, dset (dset lf 1 (0, a)) 0 (4, 0), [], g)) rfl
      dsimp only at h
      rcases zif_ne h with ⟨hc12, h⟩ | ⟨hc12, h⟩
      · have h := zm zy_361 h 11 (q := (56, dset (dset lf 1 (0, a)) 0 (4, 0), [(0, w32 ((g 0 17) + 1)), (0, a), (4, 107)], cup g 0 17 (w32 ((g 0 17) + 1)))) rfl
        dsimp only at h
        obtain ⟨g_1, hk, h⟩ := zcallV zy_361 h rfl rfl zy_147 zk_147
        dsimp only at hk h
        refine Or.inr (Or.inl (⟨⟨hc4, hc8, hc12⟩, ?_⟩))
        refine ⟨g_1, hk, ?_⟩
        have h := zm zy_361 h 4 (q := (67, dset (dset lf 1 (0, a)) 0 (4, 0), [(0, g_1 107 7), (4, 0)], g_1)) rfl
        dsimp only at h
        obtain ⟨gz13, rz14, hk, h⟩ := zcallI zy_361 h rfl rfl zy_64 zk_64
        dsimp only at hk h
        have hO15 := h
        have h := hk
        clear hk
        have h := zm zy_64 h 4 (q := (6, darg 0 [(4, 0), (0, g_1 107 7)], [(0, g_1 107 7)], cup g_1 0 0 0)) rfl
        dsimp only at h
        have h := zret zy_64 h rfl rfl
        obtain ⟨e1, e2⟩ := oI h
        have h := hO15
        rw [e1, e2] at h
        clear e1 e2
        clear hO15
        exact zret zy_361 h rfl rfl
      · have h := zm zy_361 h 2 (q := (33, dset (dset lf 1 (0, a)) 0 (4, 0), [(0, 6), (4, 0)], g)) rfl
        dsimp only at h
        obtain ⟨gz16, rz17, hk, h⟩ := zcallI zy_361 h rfl rfl zy_29 zk_29
        dsimp only at hk h
        have hO18 := h
        have h := hk
        clear hk
        have h := zm zy_29 h 4 (q := (6, darg 0 [(4, 0), (0, 6)], [(0, (-1))], cup g 0 0 6)) rfl
        dsimp only at h
        have h := zret zy_29 h rfl rfl
        obtain ⟨e1, e2⟩ := oI h
        have h := hO18
        rw [e1, e2] at h
        clear e1 e2
        clear hO18
        refine Or.inr (Or.inr (⟨⟨hc4, hc8, hc12⟩, ?_⟩))
        exact zret zy_361 h rfl rfl
theorem t_go0 {sv : Nat → Int32} {L n : Nat} {lf : dlf} {g : cg} {o : cg × Option cv} {a b : Int} (h : zr sv L n 147 0 lf [] g o) (hl0 : lf 0 = (4, 107)) (hl1 : lf 1 = (0, a)) (hl2 : lf 2 = (0, b)) : ∃ lf', lf' 0 = (4, 107) ∧ lf' 3 = (0, 0) ∧ lf' 4 = (0, 0) ∧ zr sv L n 147 40 lf' [] (cup (cup (cup (cup (cup (cup (cup g 107 5 a) 107 6 b) 107 7 0) 107 8 0) 107 9 0) 107 10 0) 107 11 0) o := by
  rw [zov hl0, zov hl1, zov hl2] at h
  have h := zm zy_147 h 25 (q := (40, dset (dset (dset (dset (dset lf 2 (0, b)) 1 (0, a)) 0 (4, 107)) 3 (0, 0)) 4 (0, 0), [], cup (cup (cup (cup (cup (cup (cup g 107 5 a) 107 6 b) 107 7 0) 107 8 0) 107 9 0) 107 10 0) 107 11 0)) rfl
  dsimp only at h
  exact ⟨_, rfl, rfl, rfl, h⟩
theorem t_go_s {sv : Nat → Int32} {L n : Nat} {lf : dlf} {g : cg} {o : cg × Option cv} {k u N K st : Nat} (rk : k ≤ 59) (ru : u ≤ 999998) (rN : N ≤ 60) (rK : K ≤ 10) (rst : st ≤ 300) (hN : g 8 2 = (N : Int)) (hl : g 107 11 = 0) (hK : g 9 k = (K : Int)) (hs : g 107 7 = (st : Int)) (hlt : k < N) (h : zr sv L (n + 1) 147 40 lf [] g o) (hl0 : lf 0 = (4, 107)) (hl3 : lf 3 = (0, (k : Int))) (hl4 : lf 4 = (0, (u : Int))) : (((K : Int) ≠ 9 ∧ (K : Int) ≠ 10 ∧ (st : Int) < 300) ∧ (∃ g_1 r_1, zr sv L n 149 0 (darg 0 [(4, 107), (0, (k : Int))]) [] (cup g 107 7 (1 + (st : Int))) (g_1, some (0, r_1)) ∧ (∃ lf', lf' 0 = (4, 107) ∧ lf' 3 = (0, r_1) ∧ lf' 4 = (0, 1 + (u : Int)) ∧ zr sv L n 147 40 lf' [] g_1 o))) ∨ (((K : Int) ≠ 9 ∧ (K : Int) ≠ 10 ∧ 300 ≤ (st : Int)) ∧ (∃ lf', lf' 0 = (4, 107) ∧ lf' 3 = (0, (k : Int)) ∧ lf' 4 = (0, 1 + (u : Int)) ∧ zr sv L n 147 40 lf' [] (cup g 107 11 1) o)) ∨ (((K : Int) ≠ 9 ∧ (K : Int) = 10) ∧ (∃ g_1 r_1, zr sv L n 148 0 (darg 0 [(4, 107), (0, (k : Int))]) [] g (g_1, some (0, r_1)) ∧ (∃ lf', lf' 0 = (4, 107) ∧ lf' 3 = (0, r_1) ∧ lf' 4 = (0, 1 + (u : Int)) ∧ zr sv L n 147 40 lf' [] g_1 o))) ∨ (((K : Int) = 9) ∧ (∃ lf', lf' 0 = (4, 107) ∧ lf' 3 = (0, 1 + (k : Int)) ∧ lf' 4 = (0, 1 + (u : Int)) ∧ zr sv L n 147 40 lf' [] g o)) := by
  rw [zov hl0, zov hl3, zov hl4] at h
  have h := zm1 zy_147 h 2 (q := (cond (crel .ge ((u : Int)) 1000000) 148 47, dset (dset (dset lf 4 (0, (u : Int))) 3 (0, (k : Int))) 0 (4, 107), [], g)) rfl
  dsimp only at h
  rcases zif_ge h with ⟨hc1, h⟩ | ⟨hc1, h⟩
  · exact absurd hc1 (by omega)
  · have h := zm zy_147 h 5 (q := (cond (crel .ge ((k : Int)) (g 8 2)) 148 58, dset (dset (dset lf 4 (0, (u : Int))) 3 (0, (k : Int))) 0 (4, 107), [], g)) rfl
    dsimp only at h
    try rw [hN] at h
    rcases zif_ge h with ⟨hc2, h⟩ | ⟨hc2, h⟩
    · exact absurd hc2 (by omega)
    · have h := zm zy_147 h 3 (q := (cond (crel .ne (g 107 11) 0) 148 65, dset (dset (dset lf 4 (0, (u : Int))) 3 (0, (k : Int))) 0 (4, 107), [], g)) rfl
      dsimp only at h
      try rw [hl] at h
      rcases zif_ne h with ⟨hc3, h⟩ | ⟨hc3, h⟩
      · exact absurd hc3 (by omega)
      · have h := zm zy_147 h 4 (q := (73, dset (dset (dset lf 4 (0, (u : Int))) 3 (0, (k : Int))) 0 (4, 107), [(0, (k : Int)), (4, 9)], g)) rfl
        dsimp only at h
        have h := zald zy_147 h rfl rfl (dvb_9 (i := (k : Int)) (by omega) (by omega))
        dsimp only at h
        try rw [show ((k : Int)).toNat = k from by omega] at h
        try rw [hK] at h
        have h := zm zy_147 h 2 (q := (cond (crel .ne ((K : Int)) 9) 85 79, dset (dset (dset lf 4 (0, (u : Int))) 3 (0, (k : Int))) 0 (4, 107), [], g)) rfl
        dsimp only at h
        rcases zif_ne h with ⟨hc4, h⟩ | ⟨hc4, h⟩
        · have h := zm zy_147 h 4 (q := (93, dset (dset (dset lf 4 (0, (u : Int))) 3 (0, (k : Int))) 0 (4, 107), [(0, (k : Int)), (4, 9)], g)) rfl
          dsimp only at h
          have h := zald zy_147 h rfl rfl (dvb_9 (i := (k : Int)) (by omega) (by omega))
          dsimp only at h
          try rw [show ((k : Int)).toNat = k from by omega] at h
          try rw [hK] at h
          have h := zm zy_147 h 2 (q := (cond (crel .ne ((K : Int)) 10) 108 99, dset (dset (dset lf 4 (0, (u : Int))) 3 (0, (k : Int))) 0 (4, 107), [], g)) rfl
          dsimp only at h
          rcases zif_ne h with ⟨hc5, h⟩ | ⟨hc5, h⟩
          · have h := zm zy_147 h 4 (q := (cond (crel .lt (g 107 7) 300) 126 118, dset (dset (dset lf 4 (0, (u : Int))) 3 (0, (k : Int))) 0 (4, 107), [], g)) rfl
            dsimp only at h
            try rw [hs] at h
            rcases zif_lt h with ⟨hc6, h⟩ | ⟨hc6, h⟩
            · have h := zm zy_147 h 8 (q := (138, dset (dset (dset lf 4 (0, (u : Int))) 3 (0, (k : Int))) 0 (4, 107), [(0, (k : Int)), (4, 107)], cup g 107 7 (w32 ((g 107 7) + 1)))) rfl
              dsimp only at h
              try rw [hs] at h
              try rw [w32_eq (z := ((st : Int)) + 1) (v := 1 + (st : Int)) (by omega) (by omega) (by omega)] at h
              obtain ⟨g_1, r_1, hk, h⟩ := zcallI zy_147 h rfl rfl zy_149 zk_149
              dsimp only at hk h
              refine Or.inl (⟨⟨hc4, hc5, hc6⟩, ?_⟩)
              refine ⟨g_1, r_1, hk, ?_⟩
              have h := zm zy_147 h 3 (q := (40, dset (dset (dset (dset (dset lf 4 (0, (u : Int))) 3 (0, (k : Int))) 0 (4, 107)) 3 (0, r_1)) 4 (0, w32 (((u : Int)) + 1)), [], g_1)) rfl
              dsimp only at h
              try rw [w32_eq (z := ((u : Int)) + 1) (v := 1 + (u : Int)) (by omega) (by omega) (by omega)] at h
              exact ⟨_, rfl, rfl, rfl, h⟩
            · have h := zm zy_147 h 6 (q := (40, dset (dset (dset (dset lf 4 (0, (u : Int))) 3 (0, (k : Int))) 0 (4, 107)) 4 (0, w32 (((u : Int)) + 1)), [], cup g 107 11 1)) rfl
              dsimp only at h
              try rw [w32_eq (z := ((u : Int)) + 1) (v := 1 + (u : Int)) (by omega) (by omega) (by omega)] at h
              refine Or.inr (Or.inl (⟨⟨hc4, hc5, hc6⟩, ?_⟩))
              exact ⟨_, rfl, rfl, rfl, h⟩
          · have h := zm zy_147 h 2 (q := (101, dset (dset (dset lf 4 (0, (u : Int))) 3 (0, (k : Int))) 0 (4, 107), [(0, (k : Int)), (4, 107)], g)) rfl
            dsimp only at h
            obtain ⟨g_1, r_1, hk, h⟩ := zcallI zy_147 h rfl rfl zy_148 zk_148
            dsimp only at hk h
            refine Or.inr (Or.inr (Or.inl (⟨⟨hc4, hc5⟩, ?_⟩)))
            refine ⟨g_1, r_1, hk, ?_⟩
            have h := zm zy_147 h 4 (q := (40, dset (dset (dset (dset (dset lf 4 (0, (u : Int))) 3 (0, (k : Int))) 0 (4, 107)) 3 (0, r_1)) 4 (0, w32 (((u : Int)) + 1)), [], g_1)) rfl
            dsimp only at h
            try rw [w32_eq (z := ((u : Int)) + 1) (v := 1 + (u : Int)) (by omega) (by omega) (by omega)] at h
            exact ⟨_, rfl, rfl, rfl, h⟩
        · have h := zm zy_147 h 4 (q := (40, dset (dset (dset (dset (dset lf 4 (0, (u : Int))) 3 (0, (k : Int))) 0 (4, 107)) 3 (0, w32 (((k : Int)) + 1))) 4 (0, w32 (((u : Int)) + 1)), [], g)) rfl
          dsimp only at h
          try rw [w32_eq (z := ((k : Int)) + 1) (v := 1 + (k : Int)) (by omega) (by omega) (by omega)] at h
          try rw [w32_eq (z := ((u : Int)) + 1) (v := 1 + (u : Int)) (by omega) (by omega) (by omega)] at h
          refine Or.inr (Or.inr (Or.inr (⟨hc4, ?_⟩)))
          exact ⟨_, rfl, rfl, rfl, h⟩
theorem t_go_e {sv : Nat → Int32} {L n : Nat} {lf : dlf} {g : cg} {o : cg × Option cv} {k u N : Nat} (rk : k ≤ 60) (ru : u ≤ 999998) (rN : N ≤ 60) (hN : g 8 2 = (N : Int)) (hge : N ≤ k) (h : zr sv L (n + 1) 147 40 lf [] g o) (hl0 : lf 0 = (4, 107)) (hl3 : lf 3 = (0, (k : Int))) (hl4 : lf 4 = (0, (u : Int))) : o = (g, none) := by
  rw [zov hl0, zov hl3, zov hl4] at h
  have h := zm1 zy_147 h 2 (q := (cond (crel .ge ((u : Int)) 1000000) 148 47, dset (dset (dset lf 4 (0, (u : Int))) 3 (0, (k : Int))) 0 (4, 107), [], g)) rfl
  dsimp only at h
  rcases zif_ge h with ⟨hc1, h⟩ | ⟨hc1, h⟩
  · exact absurd hc1 (by omega)
  · have h := zm zy_147 h 5 (q := (cond (crel .ge ((k : Int)) (g 8 2)) 148 58, dset (dset (dset lf 4 (0, (u : Int))) 3 (0, (k : Int))) 0 (4, 107), [], g)) rfl
    dsimp only at h
    try rw [hN] at h
    rcases zif_ge h with ⟨hc2, h⟩ | ⟨hc2, h⟩
    · exact zret zy_147 h rfl rfl
    · exact absurd hc2 (by omega)
theorem t_go_l {sv : Nat → Int32} {L n : Nat} {lf : dlf} {g : cg} {o : cg × Option cv} {k u N : Nat} (rk : k ≤ 59) (ru : u ≤ 999998) (rN : N ≤ 60) (hN : g 8 2 = (N : Int)) (hl : g 107 11 = 1) (hlt : k < N) (h : zr sv L (n + 1) 147 40 lf [] g o) (hl0 : lf 0 = (4, 107)) (hl3 : lf 3 = (0, (k : Int))) (hl4 : lf 4 = (0, (u : Int))) : o = (g, none) := by
  rw [zov hl0, zov hl3, zov hl4] at h
  have h := zm1 zy_147 h 2 (q := (cond (crel .ge ((u : Int)) 1000000) 148 47, dset (dset (dset lf 4 (0, (u : Int))) 3 (0, (k : Int))) 0 (4, 107), [], g)) rfl
  dsimp only at h
  rcases zif_ge h with ⟨hc1, h⟩ | ⟨hc1, h⟩
  · exact absurd hc1 (by omega)
  · have h := zm zy_147 h 5 (q := (cond (crel .ge ((k : Int)) (g 8 2)) 148 58, dset (dset (dset lf 4 (0, (u : Int))) 3 (0, (k : Int))) 0 (4, 107), [], g)) rfl
    dsimp only at h
    try rw [hN] at h
    rcases zif_ge h with ⟨hc2, h⟩ | ⟨hc2, h⟩
    · exact absurd hc2 (by omega)
    · have h := zm zy_147 h 3 (q := (cond (crel .ne (g 107 11) 0) 148 65, dset (dset (dset lf 4 (0, (u : Int))) 3 (0, (k : Int))) 0 (4, 107), [], g)) rfl
      dsimp only at h
      try rw [hl] at h
      rcases zif_ne h with ⟨hc3, h⟩ | ⟨hc3, h⟩
      · exact zret zy_147 h rfl rfl
      · exact absurd hc3 (by omega)
theorem t_ble {sv : Nat → Int32} {L n : Nat} {lf : dlf} {g : cg} {o : cg × Option cv} {k D q ro : Nat} (rk : k ≤ 59) (rD : D ≤ 2) (rq : q ≤ 59) (rro : ro ≤ 99) (hD : g 16 k = (D : Int)) (hq : g 15 k = (q : Int)) (hr : g 108 D = (ro : Int)) (h : zr sv L n 148 0 lf [] g o) (hl0 : lf 0 = (4, 107)) (hl1 : lf 1 = (0, (k : Int))) : (((ro : Int) - 1 ≤ 0) ∧ (o = (cup g 108 D ((ro : Int) - 1), some (0, 1 + (k : Int))))) ∨ ((0 < (ro : Int) - 1) ∧ (o = (cup g 108 D ((ro : Int) - 1), some (0, 1 + (q : Int))))) := by
  rw [zov hl0, zov hl1] at h
  have h := zm zy_148 h 4 (q := (8, dset (dset lf 1 (0, (k : Int))) 0 (4, 107), [(0, (k : Int)), (4, 16)], g)) rfl
  dsimp only at h
  have h := zald zy_148 h rfl rfl (dvb_16 (i := (k : Int)) (by omega) (by omega))
  dsimp only at h
  try rw [show ((k : Int)).toNat = k from by omega] at h
  try rw [hD] at h
  have h := zm zy_148 h 5 (q := (16, dset (dset (dset lf 1 (0, (k : Int))) 0 (4, 107)) 2 (0, (D : Int)), [(0, (D : Int)), (4, 108), (0, (D : Int)), (4, 108)], g)) rfl
  dsimp only at h
  have h := zald zy_148 h rfl rfl (dvb_108 (i := (D : Int)) (by omega) (by omega))
  dsimp only at h
  try rw [show ((D : Int)).toNat = D from by omega] at h
  try rw [hr] at h
  have h := zm zy_148 h 6 (q := (25, dset (dset (dset lf 1 (0, (k : Int))) 0 (4, 107)) 2 (0, (D : Int)), [(0, (D : Int)), (4, 108)], cup g 108 (((D : Int)).toNat) (w32 (((ro : Int)) - 1)))) rfl
  dsimp only at h
  try rw [show ((D : Int)).toNat = D from by omega] at h
  try rw [w32_eq (z := ((ro : Int)) - 1) (v := (ro : Int) - 1) (by omega) (by omega) (by omega)] at h
  have h := zald zy_148 h rfl rfl (dvb_108 (i := (D : Int)) (by omega) (by omega))
  dsimp only at h
  try rw [show ((D : Int)).toNat = D from by omega] at h
  try rw [cup_at] at h
  have h := zm zy_148 h 1 (q := (cond (crel .le ((ro : Int) - 1) 0) 43 29, dset (dset (dset lf 1 (0, (k : Int))) 0 (4, 107)) 2 (0, (D : Int)), [], cup g 108 D ((ro : Int) - 1))) rfl
  dsimp only at h
  rcases zif_le h with ⟨hc1, h⟩ | ⟨hc1, h⟩
  · have h := zm zy_148 h 3 (q := (46, dset (dset (dset lf 1 (0, (k : Int))) 0 (4, 107)) 2 (0, (D : Int)), [(0, w32 (((k : Int)) + 1))], cup g 108 D ((ro : Int) - 1))) rfl
    dsimp only at h
    try rw [w32_eq (z := ((k : Int)) + 1) (v := 1 + (k : Int)) (by omega) (by omega) (by omega)] at h
    refine Or.inl (⟨hc1, ?_⟩)
    exact zret zy_148 h rfl rfl
  · have h := zm zy_148 h 4 (q := (37, dset (dset (dset lf 1 (0, (k : Int))) 0 (4, 107)) 2 (0, (D : Int)), [(0, (k : Int)), (4, 15)], cup g 108 D ((ro : Int) - 1))) rfl
    dsimp only at h
    have h := zald zy_148 h rfl rfl (dvb_15 (i := (k : Int)) (by omega) (by omega))
    dsimp only at h
    try rw [show ((k : Int)).toNat = k from by omega] at h
    try rw [cup_ne (g := g) (k := 108) (j := D) (k' := 15) (j' := k) (by omega)] at h
    try rw [hq] at h
    have h := zm zy_148 h 3 (q := (46, dset (dset (dset lf 1 (0, (k : Int))) 0 (4, 107)) 2 (0, (D : Int)), [(0, w32 (((q : Int)) + 1))], cup g 108 D ((ro : Int) - 1))) rfl
    dsimp only at h
    try rw [w32_eq (z := ((q : Int)) + 1) (v := 1 + (q : Int)) (by omega) (by omega) (by omega)] at h
    refine Or.inr (⟨hc1, ?_⟩)
    exact zret zy_148 h rfl rfl
theorem t_bst_0 {sv : Nat → Int32} {L n : Nat} {lf : dlf} {g : cg} {o : cg × Option cv} {k : Nat} (rk : k ≤ 59) (hK : g 9 k = 0) (h : zr sv L n 149 0 lf [] g o) (hl0 : lf 0 = (4, 107)) (hl1 : lf 1 = (0, (k : Int))) : ∃ g_1, zr sv L n 158 0 (darg 0 [(4, 107), (0, (k : Int))]) [] g (g_1, none) ∧ (o = (g_1, some (0, 1 + (k : Int)))) := by
  rw [zov hl0, zov hl1] at h
  have h := zm zy_149 h 4 (q := (8, dset (dset lf 1 (0, (k : Int))) 0 (4, 107), [(0, (k : Int)), (4, 9)], g)) rfl
  dsimp only at h
  have h := zald zy_149 h rfl rfl (dvb_9 (i := (k : Int)) (by omega) (by omega))
  dsimp only at h
  try rw [show ((k : Int)).toNat = k from by omega] at h
  try rw [hK] at h
  have h := zm zy_149 h 3 (q := (62, dset (dset lf 1 (0, (k : Int))) 0 (4, 107), [(0, (k : Int)), (4, 107)], g)) rfl
  dsimp only at h
  obtain ⟨g_1, hk, h⟩ := zcallV zy_149 h rfl rfl zy_158 zk_158
  dsimp only at hk h
  refine ⟨g_1, hk, ?_⟩
  have h := zm zy_149 h 3 (q := (68, dset (dset lf 1 (0, (k : Int))) 0 (4, 107), [(0, w32 (((k : Int)) + 1))], g_1)) rfl
  dsimp only at h
  try rw [w32_eq (z := ((k : Int)) + 1) (v := 1 + (k : Int)) (by omega) (by omega) (by omega)] at h
  exact zret zy_149 h rfl rfl
theorem t_bst_1 {sv : Nat → Int32} {L n : Nat} {lf : dlf} {g : cg} {o : cg × Option cv} {k : Nat} (rk : k ≤ 59) (hK : g 9 k = 1) (h : zr sv L n 149 0 lf [] g o) (hl0 : lf 0 = (4, 107)) (hl1 : lf 1 = (0, (k : Int))) : ∃ g_1, zr sv L n 155 0 (darg 0 [(4, 107), (0, (k : Int))]) [] g (g_1, none) ∧ (o = (g_1, some (0, 1 + (k : Int)))) := by
  rw [zov hl0, zov hl1] at h
  have h := zm zy_149 h 4 (q := (8, dset (dset lf 1 (0, (k : Int))) 0 (4, 107), [(0, (k : Int)), (4, 9)], g)) rfl
  dsimp only at h
  have h := zald zy_149 h rfl rfl (dvb_9 (i := (k : Int)) (by omega) (by omega))
  dsimp only at h
  try rw [show ((k : Int)).toNat = k from by omega] at h
  try rw [hK] at h
  have h := zm zy_149 h 3 (q := (71, dset (dset lf 1 (0, (k : Int))) 0 (4, 107), [(0, (k : Int)), (4, 107)], g)) rfl
  dsimp only at h
  obtain ⟨g_1, hk, h⟩ := zcallV zy_149 h rfl rfl zy_155 zk_155
  dsimp only at hk h
  refine ⟨g_1, hk, ?_⟩
  have h := zm zy_149 h 3 (q := (77, dset (dset lf 1 (0, (k : Int))) 0 (4, 107), [(0, w32 (((k : Int)) + 1))], g_1)) rfl
  dsimp only at h
  try rw [w32_eq (z := ((k : Int)) + 1) (v := 1 + (k : Int)) (by omega) (by omega) (by omega)] at h
  exact zret zy_149 h rfl rfl
theorem t_bst_2 {sv : Nat → Int32} {L n : Nat} {lf : dlf} {g : cg} {o : cg × Option cv} {k P Q T : Nat} (rk : k ≤ 59) (rP : P ≤ 5) (rQ : Q ≤ 4) (rT : T ≤ 7) (hK : g 9 k = 2) (hp : g 11 k = (P : Int)) (hq : g 12 k = (Q : Int)) (ht : g 13 k = (T : Int)) (h : zr sv L n 149 0 lf [] g o) (hl0 : lf 0 = (4, 107)) (hl1 : lf 1 = (0, (k : Int))) : ∃ g_1 r_1, zr sv L n 104 0 (darg 0 [(4, 3), (0, (P : Int)), (0, (Q : Int)), (0, (T : Int))]) [] g (g_1, some (0, r_1)) ∧ (o = (g_1, some (0, 1 + (k : Int)))) := by
  rw [zov hl0, zov hl1] at h
  have h := zm zy_149 h 4 (q := (8, dset (dset lf 1 (0, (k : Int))) 0 (4, 107), [(0, (k : Int)), (4, 9)], g)) rfl
  dsimp only at h
  have h := zald zy_149 h rfl rfl (dvb_9 (i := (k : Int)) (by omega) (by omega))
  dsimp only at h
  try rw [show ((k : Int)).toNat = k from by omega] at h
  try rw [hK] at h
  have h := zm zy_149 h 7 (q := (90, dset (dset lf 1 (0, (k : Int))) 0 (4, 107), [(0, (k : Int)), (4, 11), (4, 3)], g)) rfl
  dsimp only at h
  have h := zald zy_149 h rfl rfl (dvb_11 (i := (k : Int)) (by omega) (by omega))
  dsimp only at h
  try rw [show ((k : Int)).toNat = k from by omega] at h
  try rw [hp] at h
  have h := zm zy_149 h 4 (q := (99, dset (dset lf 1 (0, (k : Int))) 0 (4, 107), [(0, (k : Int)), (4, 12), (0, (P : Int)), (4, 3)], g)) rfl
  dsimp only at h
  have h := zald zy_149 h rfl rfl (dvb_12 (i := (k : Int)) (by omega) (by omega))
  dsimp only at h
  try rw [show ((k : Int)).toNat = k from by omega] at h
  try rw [hq] at h
  have h := zm zy_149 h 4 (q := (108, dset (dset lf 1 (0, (k : Int))) 0 (4, 107), [(0, (k : Int)), (4, 13), (0, (Q : Int)), (0, (P : Int)), (4, 3)], g)) rfl
  dsimp only at h
  have h := zald zy_149 h rfl rfl (dvb_13 (i := (k : Int)) (by omega) (by omega))
  dsimp only at h
  try rw [show ((k : Int)).toNat = k from by omega] at h
  try rw [ht] at h
  obtain ⟨g_1, r_1, hk, h⟩ := zcallI zy_149 h rfl rfl zy_104 zk_104
  dsimp only at hk h
  refine ⟨g_1, r_1, hk, ?_⟩
  have h := zm zy_149 h 4 (q := (116, dset (dset lf 1 (0, (k : Int))) 0 (4, 107), [(0, w32 (((k : Int)) + 1))], g_1)) rfl
  dsimp only at h
  try rw [w32_eq (z := ((k : Int)) + 1) (v := 1 + (k : Int)) (by omega) (by omega) (by omega)] at h
  exact zret zy_149 h rfl rfl
theorem t_bst_3 {sv : Nat → Int32} {L n : Nat} {lf : dlf} {g : cg} {o : cg × Option cv} {k W : Nat} (rk : k ≤ 59) (rW : W ≤ 5) (hK : g 9 k = 3) (hw : g 10 k = (W : Int)) (h : zr sv L n 149 0 lf [] g o) (hl0 : lf 0 = (4, 107)) (hl1 : lf 1 = (0, (k : Int))) : ∃ g_1, zr sv L n 153 0 (darg 0 [(4, 107), (0, (W : Int))]) [] g (g_1, none) ∧ (o = (g_1, some (0, 1 + (k : Int)))) := by
  rw [zov hl0, zov hl1] at h
  have h := zm zy_149 h 4 (q := (8, dset (dset lf 1 (0, (k : Int))) 0 (4, 107), [(0, (k : Int)), (4, 9)], g)) rfl
  dsimp only at h
  have h := zald zy_149 h rfl rfl (dvb_9 (i := (k : Int)) (by omega) (by omega))
  dsimp only at h
  try rw [show ((k : Int)).toNat = k from by omega] at h
  try rw [hK] at h
  have h := zm zy_149 h 6 (q := (126, dset (dset lf 1 (0, (k : Int))) 0 (4, 107), [(0, (k : Int)), (4, 10), (4, 107)], g)) rfl
  dsimp only at h
  have h := zald zy_149 h rfl rfl (dvb_10 (i := (k : Int)) (by omega) (by omega))
  dsimp only at h
  try rw [show ((k : Int)).toNat = k from by omega] at h
  try rw [hw] at h
  obtain ⟨g_1, hk, h⟩ := zcallV zy_149 h rfl rfl zy_153 zk_153
  dsimp only at hk h
  refine ⟨g_1, hk, ?_⟩
  have h := zm zy_149 h 3 (q := (133, dset (dset lf 1 (0, (k : Int))) 0 (4, 107), [(0, w32 (((k : Int)) + 1))], g_1)) rfl
  dsimp only at h
  try rw [w32_eq (z := ((k : Int)) + 1) (v := 1 + (k : Int)) (by omega) (by omega) (by omega)] at h
  exact zret zy_149 h rfl rfl
theorem t_bst_4 {sv : Nat → Int32} {L n : Nat} {lf : dlf} {g : cg} {o : cg × Option cv} {k : Nat} (rk : k ≤ 59) (hK : g 9 k = 4) (h : zr sv L n 149 0 lf [] g o) (hl0 : lf 0 = (4, 107)) (hl1 : lf 1 = (0, (k : Int))) : ∃ g_1 r_1, zr sv L n 150 0 (darg 0 [(4, 107), (0, (k : Int))]) [] g (g_1, some (0, r_1)) ∧ (((r_1 = 0) ∧ (o = (g_1, some (0, w32 ((g_1 15 k) + 1))))) ∨ ((r_1 ≠ 0) ∧ (o = (g_1, some (0, 1 + (k : Int)))))) := by
  rw [zov hl0, zov hl1] at h
  have h := zm zy_149 h 4 (q := (8, dset (dset lf 1 (0, (k : Int))) 0 (4, 107), [(0, (k : Int)), (4, 9)], g)) rfl
  dsimp only at h
  have h := zald zy_149 h rfl rfl (dvb_9 (i := (k : Int)) (by omega) (by omega))
  dsimp only at h
  try rw [show ((k : Int)).toNat = k from by omega] at h
  try rw [hK] at h
  have h := zm zy_149 h 3 (q := (150, dset (dset lf 1 (0, (k : Int))) 0 (4, 107), [(0, (k : Int)), (4, 107)], g)) rfl
  dsimp only at h
  obtain ⟨g_1, r_1, hk, h⟩ := zcallI zy_149 h rfl rfl zy_150 zk_150
  dsimp only at hk h
  refine ⟨g_1, r_1, hk, ?_⟩
  have h := zm zy_149 h 1 (q := (cond (crel .eq r_1 0) 162 156, dset (dset lf 1 (0, (k : Int))) 0 (4, 107), [], g_1)) rfl
  dsimp only at h
  rcases zif_eq h with ⟨hc1, h⟩ | ⟨hc1, h⟩
  · have h := zm zy_149 h 4 (q := (170, dset (dset lf 1 (0, (k : Int))) 0 (4, 107), [(0, (k : Int)), (4, 15)], g_1)) rfl
    dsimp only at h
    have h := zald zy_149 h rfl rfl (dvb_15 (i := (k : Int)) (by omega) (by omega))
    dsimp only at h
    try rw [show ((k : Int)).toNat = k from by omega] at h
    have h := zm zy_149 h 2 (q := (173, dset (dset lf 1 (0, (k : Int))) 0 (4, 107), [(0, w32 ((g_1 15 k) + 1))], g_1)) rfl
    dsimp only at h
    refine Or.inl (⟨hc1, ?_⟩)
    exact zret zy_149 h rfl rfl
  · have h := zm zy_149 h 4 (q := (173, dset (dset lf 1 (0, (k : Int))) 0 (4, 107), [(0, w32 (((k : Int)) + 1))], g_1)) rfl
    dsimp only at h
    try rw [w32_eq (z := ((k : Int)) + 1) (v := 1 + (k : Int)) (by omega) (by omega) (by omega)] at h
    refine Or.inr (⟨hc1, ?_⟩)
    exact zret zy_149 h rfl rfl
theorem t_bst_5 {sv : Nat → Int32} {L n : Nat} {lf : dlf} {g : cg} {o : cg × Option cv} {k : Nat} (rk : k ≤ 59) (hK : g 9 k = 5) (h : zr sv L n 149 0 lf [] g o) (hl0 : lf 0 = (4, 107)) (hl1 : lf 1 = (0, (k : Int))) : ∃ g_1 r_1, zr sv L n 150 0 (darg 0 [(4, 107), (0, (k : Int))]) [] g (g_1, some (0, r_1)) ∧ (((r_1 = 0) ∧ (o = (g_1, some (0, w32 ((g_1 15 k) + 1))))) ∨ ((r_1 ≠ 0) ∧ (o = (g_1, some (0, 1 + (k : Int)))))) := by
  rw [zov hl0, zov hl1] at h
  have h := zm zy_149 h 4 (q := (8, dset (dset lf 1 (0, (k : Int))) 0 (4, 107), [(0, (k : Int)), (4, 9)], g)) rfl
  dsimp only at h
  have h := zald zy_149 h rfl rfl (dvb_9 (i := (k : Int)) (by omega) (by omega))
  dsimp only at h
  try rw [show ((k : Int)).toNat = k from by omega] at h
  try rw [hK] at h
  have h := zm zy_149 h 3 (q := (150, dset (dset lf 1 (0, (k : Int))) 0 (4, 107), [(0, (k : Int)), (4, 107)], g)) rfl
  dsimp only at h
  obtain ⟨g_1, r_1, hk, h⟩ := zcallI zy_149 h rfl rfl zy_150 zk_150
  dsimp only at hk h
  refine ⟨g_1, r_1, hk, ?_⟩
  have h := zm zy_149 h 1 (q := (cond (crel .eq r_1 0) 162 156, dset (dset lf 1 (0, (k : Int))) 0 (4, 107), [], g_1)) rfl
  dsimp only at h
  rcases zif_eq h with ⟨hc1, h⟩ | ⟨hc1, h⟩
  · have h := zm zy_149 h 4 (q := (170, dset (dset lf 1 (0, (k : Int))) 0 (4, 107), [(0, (k : Int)), (4, 15)], g_1)) rfl
    dsimp only at h
    have h := zald zy_149 h rfl rfl (dvb_15 (i := (k : Int)) (by omega) (by omega))
    dsimp only at h
    try rw [show ((k : Int)).toNat = k from by omega] at h
    have h := zm zy_149 h 2 (q := (173, dset (dset lf 1 (0, (k : Int))) 0 (4, 107), [(0, w32 ((g_1 15 k) + 1))], g_1)) rfl
    dsimp only at h
    refine Or.inl (⟨hc1, ?_⟩)
    exact zret zy_149 h rfl rfl
  · have h := zm zy_149 h 4 (q := (173, dset (dset lf 1 (0, (k : Int))) 0 (4, 107), [(0, w32 (((k : Int)) + 1))], g_1)) rfl
    dsimp only at h
    try rw [w32_eq (z := ((k : Int)) + 1) (v := 1 + (k : Int)) (by omega) (by omega) (by omega)] at h
    refine Or.inr (⟨hc1, ?_⟩)
    exact zret zy_149 h rfl rfl
theorem t_bst_6 {sv : Nat → Int32} {L n : Nat} {lf : dlf} {g : cg} {o : cg × Option cv} {k : Nat} (rk : k ≤ 59) (hK : g 9 k = 6) (h : zr sv L n 149 0 lf [] g o) (hl0 : lf 0 = (4, 107)) (hl1 : lf 1 = (0, (k : Int))) : ∃ g_1 r_1, zr sv L n 150 0 (darg 0 [(4, 107), (0, (k : Int))]) [] g (g_1, some (0, r_1)) ∧ (((r_1 = 0) ∧ (o = (g_1, some (0, w32 ((g_1 15 k) + 1))))) ∨ ((r_1 ≠ 0) ∧ (o = (g_1, some (0, 1 + (k : Int)))))) := by
  rw [zov hl0, zov hl1] at h
  have h := zm zy_149 h 4 (q := (8, dset (dset lf 1 (0, (k : Int))) 0 (4, 107), [(0, (k : Int)), (4, 9)], g)) rfl
  dsimp only at h
  have h := zald zy_149 h rfl rfl (dvb_9 (i := (k : Int)) (by omega) (by omega))
  dsimp only at h
  try rw [show ((k : Int)).toNat = k from by omega] at h
  try rw [hK] at h
  have h := zm zy_149 h 3 (q := (150, dset (dset lf 1 (0, (k : Int))) 0 (4, 107), [(0, (k : Int)), (4, 107)], g)) rfl
  dsimp only at h
  obtain ⟨g_1, r_1, hk, h⟩ := zcallI zy_149 h rfl rfl zy_150 zk_150
  dsimp only at hk h
  refine ⟨g_1, r_1, hk, ?_⟩
  have h := zm zy_149 h 1 (q := (cond (crel .eq r_1 0) 162 156, dset (dset lf 1 (0, (k : Int))) 0 (4, 107), [], g_1)) rfl
  dsimp only at h
  rcases zif_eq h with ⟨hc1, h⟩ | ⟨hc1, h⟩
  · have h := zm zy_149 h 4 (q := (170, dset (dset lf 1 (0, (k : Int))) 0 (4, 107), [(0, (k : Int)), (4, 15)], g_1)) rfl
    dsimp only at h
    have h := zald zy_149 h rfl rfl (dvb_15 (i := (k : Int)) (by omega) (by omega))
    dsimp only at h
    try rw [show ((k : Int)).toNat = k from by omega] at h
    have h := zm zy_149 h 2 (q := (173, dset (dset lf 1 (0, (k : Int))) 0 (4, 107), [(0, w32 ((g_1 15 k) + 1))], g_1)) rfl
    dsimp only at h
    refine Or.inl (⟨hc1, ?_⟩)
    exact zret zy_149 h rfl rfl
  · have h := zm zy_149 h 4 (q := (173, dset (dset lf 1 (0, (k : Int))) 0 (4, 107), [(0, w32 (((k : Int)) + 1))], g_1)) rfl
    dsimp only at h
    try rw [w32_eq (z := ((k : Int)) + 1) (v := 1 + (k : Int)) (by omega) (by omega) (by omega)] at h
    refine Or.inr (⟨hc1, ?_⟩)
    exact zret zy_149 h rfl rfl
theorem t_bst_7 {sv : Nat → Int32} {L n : Nat} {lf : dlf} {g : cg} {o : cg × Option cv} {k : Nat} (rk : k ≤ 59) (hK : g 9 k = 7) (h : zr sv L n 149 0 lf [] g o) (hl0 : lf 0 = (4, 107)) (hl1 : lf 1 = (0, (k : Int))) : ∃ g_1 r_1, zr sv L n 151 0 (darg 0 [(4, 107), (0, (k : Int))]) [] g (g_1, some (0, r_1)) ∧ (o = (g_1, some (0, r_1))) := by
  rw [zov hl0, zov hl1] at h
  have h := zm zy_149 h 4 (q := (8, dset (dset lf 1 (0, (k : Int))) 0 (4, 107), [(0, (k : Int)), (4, 9)], g)) rfl
  dsimp only at h
  have h := zald zy_149 h rfl rfl (dvb_9 (i := (k : Int)) (by omega) (by omega))
  dsimp only at h
  try rw [show ((k : Int)).toNat = k from by omega] at h
  try rw [hK] at h
  have h := zm zy_149 h 3 (q := (136, dset (dset lf 1 (0, (k : Int))) 0 (4, 107), [(0, (k : Int)), (4, 107)], g)) rfl
  dsimp only at h
  obtain ⟨g_1, r_1, hk, h⟩ := zcallI zy_149 h rfl rfl zy_151 zk_151
  dsimp only at hk h
  refine ⟨g_1, r_1, hk, ?_⟩
  exact zret zy_149 h rfl rfl
theorem t_inl {sv : Nat → Int32} {L n : Nat} {lf : dlf} {g : cg} {o : cg × Option cv} {k D q : Nat} {v : Int} (rk : k ≤ 59) (rD : D ≤ 2) (rq : q ≤ 59) (hD : g 16 k = (D : Int)) (hq : g 15 k = (q : Int)) (ht : g 13 k = v) (h : zr sv L n 151 0 lf [] g o) (hl0 : lf 0 = (4, 107)) (hl1 : lf 1 = (0, (k : Int))) : (((q : Int) ≠ 1 + (k : Int)) ∧ (o = (cup g 108 D v, some (0, 1 + (k : Int))))) ∨ (((q : Int) = 1 + (k : Int)) ∧ (o = (cup g 108 D v, some (0, 2 + (k : Int))))) := by
  rw [zov hl0, zov hl1] at h
  have h := zm zy_151 h 6 (q := (12, dset (dset lf 1 (0, (k : Int))) 0 (4, 107), [(0, (k : Int)), (4, 16), (4, 108)], g)) rfl
  dsimp only at h
  have h := zald zy_151 h rfl rfl (dvb_16 (i := (k : Int)) (by omega) (by omega))
  dsimp only at h
  try rw [show ((k : Int)).toNat = k from by omega] at h
  try rw [hD] at h
  have h := zm zy_151 h 4 (q := (21, dset (dset lf 1 (0, (k : Int))) 0 (4, 107), [(0, (k : Int)), (4, 13), (0, (D : Int)), (4, 108)], g)) rfl
  dsimp only at h
  have h := zald zy_151 h rfl rfl (dvb_13 (i := (k : Int)) (by omega) (by omega))
  dsimp only at h
  try rw [show ((k : Int)).toNat = k from by omega] at h
  try rw [ht] at h
  have h := zm zy_151 h 5 (q := (31, dset (dset lf 1 (0, (k : Int))) 0 (4, 107), [(0, (k : Int)), (4, 15)], cup g 108 (((D : Int)).toNat) v)) rfl
  dsimp only at h
  try rw [show ((D : Int)).toNat = D from by omega] at h
  have h := zald zy_151 h rfl rfl (dvb_15 (i := (k : Int)) (by omega) (by omega))
  dsimp only at h
  try rw [show ((k : Int)).toNat = k from by omega] at h
  try rw [cup_ne (g := g) (k := 108) (j := D) (k' := 15) (j' := k) (by omega)] at h
  try rw [hq] at h
  have h := zm zy_151 h 3 (q := (35, dset (dset lf 1 (0, (k : Int))) 0 (4, 107), [(0, w32 (((k : Int)) + 1)), (0, (q : Int))], cup g 108 D v)) rfl
  dsimp only at h
  try rw [w32_eq (z := ((k : Int)) + 1) (v := 1 + (k : Int)) (by omega) (by omega) (by omega)] at h
  have h := zm zy_151 h 1 (q := (cond (crel .ne ((q : Int)) (1 + (k : Int))) 44 38, dset (dset lf 1 (0, (k : Int))) 0 (4, 107), [], cup g 108 D v)) rfl
  dsimp only at h
  rcases zif_ne h with ⟨hc1, h⟩ | ⟨hc1, h⟩
  · have h := zm zy_151 h 3 (q := (47, dset (dset lf 1 (0, (k : Int))) 0 (4, 107), [(0, w32 (((k : Int)) + 1))], cup g 108 D v)) rfl
    dsimp only at h
    try rw [w32_eq (z := ((k : Int)) + 1) (v := 1 + (k : Int)) (by omega) (by omega) (by omega)] at h
    refine Or.inl (⟨hc1, ?_⟩)
    exact zret zy_151 h rfl rfl
  · have h := zm zy_151 h 4 (q := (47, dset (dset lf 1 (0, (k : Int))) 0 (4, 107), [(0, w32 (((k : Int)) + 2))], cup g 108 D v)) rfl
    dsimp only at h
    try rw [w32_eq (z := ((k : Int)) + 2) (v := 2 + (k : Int)) (by omega) (by omega) (by omega)] at h
    refine Or.inr (⟨hc1, ?_⟩)
    exact zret zy_151 h rfl rfl
theorem t_bst_8 {sv : Nat → Int32} {L n : Nat} {lf : dlf} {g : cg} {o : cg × Option cv} {k N : Nat} (rk : k ≤ 59) (rN : N ≤ 60) (hK : g 9 k = 8) (hN : g 8 2 = (N : Int)) (h : zr sv L n 149 0 lf [] g o) (hl0 : lf 0 = (4, 107)) (hl1 : lf 1 = (0, (k : Int))) : o = (g, some (0, (N : Int))) := by
  rw [zov hl0, zov hl1] at h
  have h := zm zy_149 h 4 (q := (8, dset (dset lf 1 (0, (k : Int))) 0 (4, 107), [(0, (k : Int)), (4, 9)], g)) rfl
  dsimp only at h
  have h := zald zy_149 h rfl rfl (dvb_9 (i := (k : Int)) (by omega) (by omega))
  dsimp only at h
  try rw [show ((k : Int)).toNat = k from by omega] at h
  try rw [hK] at h
  have h := zm zy_149 h 4 (q := (147, dset (dset lf 1 (0, (k : Int))) 0 (4, 107), [(0, g 8 2)], g)) rfl
  dsimp only at h
  try rw [hN] at h
  exact zret zy_149 h rfl rfl
theorem t_hld_4 {sv : Nat → Int32} {L n : Nat} {lf : dlf} {g : cg} {o : cg × Option cv} {k : Nat} {sg v ti : Int} (rk : k ≤ 59) (hK : g 9 k = 4) (hti : g 3 8 = ti) (hg : g 14 k = sg) (ht : g 13 k = v) (h : zr sv L n 150 0 lf [] g o) (hl0 : lf 0 = (4, 107)) (hl1 : lf 1 = (0, (k : Int))) : (((sg ≠ 60 ∧ sg ≠ 62 ∧ ti ≠ v) ∨ (sg ≠ 60 ∧ sg = 62 ∧ ti ≤ v) ∨ (sg = 60 ∧ v ≤ ti)) ∧ (o = (g, some (0, 0)))) ∨ (((sg ≠ 60 ∧ sg ≠ 62 ∧ ti = v) ∨ (sg ≠ 60 ∧ sg = 62 ∧ v < ti) ∨ (sg = 60 ∧ ti < v)) ∧ (o = (g, some (0, 1)))) := by
  rw [zov hl0, zov hl1] at h
  have h := zm zy_150 h 4 (q := (8, dset (dset lf 1 (0, (k : Int))) 0 (4, 107), [(0, (k : Int)), (4, 9)], g)) rfl
  dsimp only at h
  have h := zald zy_150 h rfl rfl (dvb_9 (i := (k : Int)) (by omega) (by omega))
  dsimp only at h
  try rw [show ((k : Int)).toNat = k from by omega] at h
  try rw [hK] at h
  have h := zm zy_150 h 6 (q := (45, dset (dset lf 1 (0, (k : Int))) 0 (4, 107), [(0, (k : Int)), (0, g 3 8), (4, 107)], g)) rfl
  dsimp only at h
  try rw [hti] at h
  obtain ⟨gz1, rz2, hk, h⟩ := zcallI zy_150 h rfl rfl zy_152 zk_152
  dsimp only at hk h
  have hO3 := h
  have h := hk
  clear hk
  have h := zm zy_152 h 4 (q := (8, darg 0 [(4, 107), (0, ti), (0, (k : Int))], [(0, (k : Int)), (4, 14)], g)) rfl
  dsimp only at h
  have h := zald zy_152 h rfl rfl (dvb_14 (i := (k : Int)) (by omega) (by omega))
  dsimp only at h
  try rw [show ((k : Int)).toNat = k from by omega] at h
  try rw [hg] at h
  have h := zm zy_152 h 2 (q := (cond (crel .ne sg 60) 33 14, darg 0 [(4, 107), (0, ti), (0, (k : Int))], [], g)) rfl
  dsimp only at h
  rcases zif_ne h with ⟨hc4, h⟩ | ⟨hc4, h⟩
  · have h := zm zy_152 h 4 (q := (41, darg 0 [(4, 107), (0, ti), (0, (k : Int))], [(0, (k : Int)), (4, 14)], g)) rfl
    dsimp only at h
    have h := zald zy_152 h rfl rfl (dvb_14 (i := (k : Int)) (by omega) (by omega))
    dsimp only at h
    try rw [show ((k : Int)).toNat = k from by omega] at h
    try rw [hg] at h
    have h := zm zy_152 h 2 (q := (cond (crel .ne sg 62) 66 47, darg 0 [(4, 107), (0, ti), (0, (k : Int))], [], g)) rfl
    dsimp only at h
    rcases zif_ne h with ⟨hc5, h⟩ | ⟨hc5, h⟩
    · have h := zm zy_152 h 5 (q := (75, darg 0 [(4, 107), (0, ti), (0, (k : Int))], [(0, (k : Int)), (4, 13), (0, ti)], g)) rfl
      dsimp only at h
      have h := zald zy_152 h rfl rfl (dvb_13 (i := (k : Int)) (by omega) (by omega))
      dsimp only at h
      try rw [show ((k : Int)).toNat = k from by omega] at h
      try rw [ht] at h
      have h := zm zy_152 h 1 (q := (cond (crel .ne ti v) 83 79, darg 0 [(4, 107), (0, ti), (0, (k : Int))], [], g)) rfl
      dsimp only at h
      rcases zif_ne h with ⟨hc6, h⟩ | ⟨hc6, h⟩
      · have h := zm zy_152 h 1 (q := (84, darg 0 [(4, 107), (0, ti), (0, (k : Int))], [(0, 0)], g)) rfl
        dsimp only at h
        have h := zret zy_152 h rfl rfl
        obtain ⟨e1, e2⟩ := oI h
        have h := hO3
        rw [e1, e2] at h
        clear e1 e2
        clear hO3
        refine Or.inl (⟨Or.inl (⟨hc4, hc5, hc6⟩), ?_⟩)
        exact zret zy_150 h rfl rfl
      · have h := zm zy_152 h 2 (q := (84, darg 0 [(4, 107), (0, ti), (0, (k : Int))], [(0, 1)], g)) rfl
        dsimp only at h
        have h := zret zy_152 h rfl rfl
        obtain ⟨e1, e2⟩ := oI h
        have h := hO3
        rw [e1, e2] at h
        clear e1 e2
        clear hO3
        refine Or.inr (⟨Or.inl (⟨hc4, hc5, hc6⟩), ?_⟩)
        exact zret zy_150 h rfl rfl
    · have h := zm zy_152 h 5 (q := (56, darg 0 [(4, 107), (0, ti), (0, (k : Int))], [(0, (k : Int)), (4, 13), (0, ti)], g)) rfl
      dsimp only at h
      have h := zald zy_152 h rfl rfl (dvb_13 (i := (k : Int)) (by omega) (by omega))
      dsimp only at h
      try rw [show ((k : Int)).toNat = k from by omega] at h
      try rw [ht] at h
      have h := zm zy_152 h 1 (q := (cond (crel .le ti v) 64 60, darg 0 [(4, 107), (0, ti), (0, (k : Int))], [], g)) rfl
      dsimp only at h
      rcases zif_le h with ⟨hc7, h⟩ | ⟨hc7, h⟩
      · have h := zm zy_152 h 1 (q := (65, darg 0 [(4, 107), (0, ti), (0, (k : Int))], [(0, 0)], g)) rfl
        dsimp only at h
        have h := zret zy_152 h rfl rfl
        obtain ⟨e1, e2⟩ := oI h
        have h := hO3
        rw [e1, e2] at h
        clear e1 e2
        clear hO3
        refine Or.inl (⟨Or.inr (Or.inl (⟨hc4, hc5, hc7⟩)), ?_⟩)
        exact zret zy_150 h rfl rfl
      · have h := zm zy_152 h 2 (q := (65, darg 0 [(4, 107), (0, ti), (0, (k : Int))], [(0, 1)], g)) rfl
        dsimp only at h
        have h := zret zy_152 h rfl rfl
        obtain ⟨e1, e2⟩ := oI h
        have h := hO3
        rw [e1, e2] at h
        clear e1 e2
        clear hO3
        refine Or.inr (⟨Or.inr (Or.inl (⟨hc4, hc5, hc7⟩)), ?_⟩)
        exact zret zy_150 h rfl rfl
  · have h := zm zy_152 h 5 (q := (23, darg 0 [(4, 107), (0, ti), (0, (k : Int))], [(0, (k : Int)), (4, 13), (0, ti)], g)) rfl
    dsimp only at h
    have h := zald zy_152 h rfl rfl (dvb_13 (i := (k : Int)) (by omega) (by omega))
    dsimp only at h
    try rw [show ((k : Int)).toNat = k from by omega] at h
    try rw [ht] at h
    have h := zm zy_152 h 1 (q := (cond (crel .ge ti v) 31 27, darg 0 [(4, 107), (0, ti), (0, (k : Int))], [], g)) rfl
    dsimp only at h
    rcases zif_ge h with ⟨hc8, h⟩ | ⟨hc8, h⟩
    · have h := zm zy_152 h 1 (q := (32, darg 0 [(4, 107), (0, ti), (0, (k : Int))], [(0, 0)], g)) rfl
      dsimp only at h
      have h := zret zy_152 h rfl rfl
      obtain ⟨e1, e2⟩ := oI h
      have h := hO3
      rw [e1, e2] at h
      clear e1 e2
      clear hO3
      refine Or.inl (⟨Or.inr (Or.inr (⟨hc4, hc8⟩)), ?_⟩)
      exact zret zy_150 h rfl rfl
    · have h := zm zy_152 h 2 (q := (32, darg 0 [(4, 107), (0, ti), (0, (k : Int))], [(0, 1)], g)) rfl
      dsimp only at h
      have h := zret zy_152 h rfl rfl
      obtain ⟨e1, e2⟩ := oI h
      have h := hO3
      rw [e1, e2] at h
      clear e1 e2
      clear hO3
      refine Or.inr (⟨Or.inr (Or.inr (⟨hc4, hc8⟩)), ?_⟩)
      exact zret zy_150 h rfl rfl
theorem t_hld_5 {sv : Nat → Int32} {L n : Nat} {lf : dlf} {g : cg} {o : cg × Option cv} {k P : Nat} {sg v pu : Int} (rk : k ≤ 59) (rP : P ≤ 5) (hK : g 9 k = 5) (hp : g 11 k = (P : Int)) (hpu : g (17 + 2 * P) 1 = pu) (hg : g 14 k = sg) (ht : g 13 k = v) (h : zr sv L n 150 0 lf [] g o) (hl0 : lf 0 = (4, 107)) (hl1 : lf 1 = (0, (k : Int))) : (((sg ≠ 60 ∧ sg ≠ 62 ∧ pu ≠ v) ∨ (sg ≠ 60 ∧ sg = 62 ∧ pu ≤ v) ∨ (sg = 60 ∧ v ≤ pu)) ∧ (o = (g, some (0, 0)))) ∨ (((sg ≠ 60 ∧ sg ≠ 62 ∧ pu = v) ∨ (sg ≠ 60 ∧ sg = 62 ∧ v < pu) ∨ (sg = 60 ∧ pu < v)) ∧ (o = (g, some (0, 1)))) := by
  rw [zov hl0, zov hl1] at h
  have h := zm zy_150 h 4 (q := (8, dset (dset lf 1 (0, (k : Int))) 0 (4, 107), [(0, (k : Int)), (4, 9)], g)) rfl
  dsimp only at h
  have h := zald zy_150 h rfl rfl (dvb_9 (i := (k : Int)) (by omega) (by omega))
  dsimp only at h
  try rw [show ((k : Int)).toNat = k from by omega] at h
  try rw [hK] at h
  have h := zm zy_150 h 9 (q := (65, dset (dset lf 1 (0, (k : Int))) 0 (4, 107), [(0, (k : Int)), (4, 11), (4, 6), (4, 107)], g)) rfl
  dsimp only at h
  have h := zald zy_150 h rfl rfl (dvb_11 (i := (k : Int)) (by omega) (by omega))
  dsimp only at h
  try rw [show ((k : Int)).toNat = k from by omega] at h
  try rw [hp] at h
  have h := zald zy_150 h rfl rfl (dvp_6 (i := (P : Int)) (by omega) (by omega))
  dsimp only at h
  have h := zgf zy_150 h rfl rfl (dvf_17_1 (i := (P : Int)) (by omega) (by omega))
  dsimp only at h
  try rw [show (17 + 2 * ((P : Int))).toNat = 17 + 2 * P from by omega] at h
  try rw [hpu] at h
  have h := zm zy_150 h 1 (q := (71, dset (dset lf 1 (0, (k : Int))) 0 (4, 107), [(0, (k : Int)), (0, pu), (4, 107)], g)) rfl
  dsimp only at h
  obtain ⟨gz1, rz2, hk, h⟩ := zcallI zy_150 h rfl rfl zy_152 zk_152
  dsimp only at hk h
  have hO3 := h
  have h := hk
  clear hk
  have h := zm zy_152 h 4 (q := (8, darg 0 [(4, 107), (0, pu), (0, (k : Int))], [(0, (k : Int)), (4, 14)], g)) rfl
  dsimp only at h
  have h := zald zy_152 h rfl rfl (dvb_14 (i := (k : Int)) (by omega) (by omega))
  dsimp only at h
  try rw [show ((k : Int)).toNat = k from by omega] at h
  try rw [hg] at h
  have h := zm zy_152 h 2 (q := (cond (crel .ne sg 60) 33 14, darg 0 [(4, 107), (0, pu), (0, (k : Int))], [], g)) rfl
  dsimp only at h
  rcases zif_ne h with ⟨hc4, h⟩ | ⟨hc4, h⟩
  · have h := zm zy_152 h 4 (q := (41, darg 0 [(4, 107), (0, pu), (0, (k : Int))], [(0, (k : Int)), (4, 14)], g)) rfl
    dsimp only at h
    have h := zald zy_152 h rfl rfl (dvb_14 (i := (k : Int)) (by omega) (by omega))
    dsimp only at h
    try rw [show ((k : Int)).toNat = k from by omega] at h
    try rw [hg] at h
    have h := zm zy_152 h 2 (q := (cond (crel .ne sg 62) 66 47, darg 0 [(4, 107), (0, pu), (0, (k : Int))], [], g)) rfl
    dsimp only at h
    rcases zif_ne h with ⟨hc5, h⟩ | ⟨hc5, h⟩
    · have h := zm zy_152 h 5 (q := (75, darg 0 [(4, 107), (0, pu), (0, (k : Int))], [(0, (k : Int)), (4, 13), (0, pu)], g)) rfl
      dsimp only at h
      have h := zald zy_152 h rfl rfl (dvb_13 (i := (k : Int)) (by omega) (by omega))
      dsimp only at h
      try rw [show ((k : Int)).toNat = k from by omega] at h
      try rw [ht] at h
      have h := zm zy_152 h 1 (q := (cond (crel .ne pu v) 83 79, darg 0 [(4, 107), (0, pu), (0, (k : Int))], [], g)) rfl
      dsimp only at h
      rcases zif_ne h with ⟨hc6, h⟩ | ⟨hc6, h⟩
      · have h := zm zy_152 h 1 (q := (84, darg 0 [(4, 107), (0, pu), (0, (k : Int))], [(0, 0)], g)) rfl
        dsimp only at h
        have h := zret zy_152 h rfl rfl
        obtain ⟨e1, e2⟩ := oI h
        have h := hO3
        rw [e1, e2] at h
        clear e1 e2
        clear hO3
        refine Or.inl (⟨Or.inl (⟨hc4, hc5, hc6⟩), ?_⟩)
        exact zret zy_150 h rfl rfl
      · have h := zm zy_152 h 2 (q := (84, darg 0 [(4, 107), (0, pu), (0, (k : Int))], [(0, 1)], g)) rfl
        dsimp only at h
        have h := zret zy_152 h rfl rfl
        obtain ⟨e1, e2⟩ := oI h
        have h := hO3
        rw [e1, e2] at h
        clear e1 e2
        clear hO3
        refine Or.inr (⟨Or.inl (⟨hc4, hc5, hc6⟩), ?_⟩)
        exact zret zy_150 h rfl rfl
    · have h := zm zy_152 h 5 (q := (56, darg 0 [(4, 107), (0, pu), (0, (k : Int))], [(0, (k : Int)), (4, 13), (0, pu)], g)) rfl
      dsimp only at h
      have h := zald zy_152 h rfl rfl (dvb_13 (i := (k : Int)) (by omega) (by omega))
      dsimp only at h
      try rw [show ((k : Int)).toNat = k from by omega] at h
      try rw [ht] at h
      have h := zm zy_152 h 1 (q := (cond (crel .le pu v) 64 60, darg 0 [(4, 107), (0, pu), (0, (k : Int))], [], g)) rfl
      dsimp only at h
      rcases zif_le h with ⟨hc7, h⟩ | ⟨hc7, h⟩
      · have h := zm zy_152 h 1 (q := (65, darg 0 [(4, 107), (0, pu), (0, (k : Int))], [(0, 0)], g)) rfl
        dsimp only at h
        have h := zret zy_152 h rfl rfl
        obtain ⟨e1, e2⟩ := oI h
        have h := hO3
        rw [e1, e2] at h
        clear e1 e2
        clear hO3
        refine Or.inl (⟨Or.inr (Or.inl (⟨hc4, hc5, hc7⟩)), ?_⟩)
        exact zret zy_150 h rfl rfl
      · have h := zm zy_152 h 2 (q := (65, darg 0 [(4, 107), (0, pu), (0, (k : Int))], [(0, 1)], g)) rfl
        dsimp only at h
        have h := zret zy_152 h rfl rfl
        obtain ⟨e1, e2⟩ := oI h
        have h := hO3
        rw [e1, e2] at h
        clear e1 e2
        clear hO3
        refine Or.inr (⟨Or.inr (Or.inl (⟨hc4, hc5, hc7⟩)), ?_⟩)
        exact zret zy_150 h rfl rfl
  · have h := zm zy_152 h 5 (q := (23, darg 0 [(4, 107), (0, pu), (0, (k : Int))], [(0, (k : Int)), (4, 13), (0, pu)], g)) rfl
    dsimp only at h
    have h := zald zy_152 h rfl rfl (dvb_13 (i := (k : Int)) (by omega) (by omega))
    dsimp only at h
    try rw [show ((k : Int)).toNat = k from by omega] at h
    try rw [ht] at h
    have h := zm zy_152 h 1 (q := (cond (crel .ge pu v) 31 27, darg 0 [(4, 107), (0, pu), (0, (k : Int))], [], g)) rfl
    dsimp only at h
    rcases zif_ge h with ⟨hc8, h⟩ | ⟨hc8, h⟩
    · have h := zm zy_152 h 1 (q := (32, darg 0 [(4, 107), (0, pu), (0, (k : Int))], [(0, 0)], g)) rfl
      dsimp only at h
      have h := zret zy_152 h rfl rfl
      obtain ⟨e1, e2⟩ := oI h
      have h := hO3
      rw [e1, e2] at h
      clear e1 e2
      clear hO3
      refine Or.inl (⟨Or.inr (Or.inr (⟨hc4, hc8⟩)), ?_⟩)
      exact zret zy_150 h rfl rfl
    · have h := zm zy_152 h 2 (q := (32, darg 0 [(4, 107), (0, pu), (0, (k : Int))], [(0, 1)], g)) rfl
      dsimp only at h
      have h := zret zy_152 h rfl rfl
      obtain ⟨e1, e2⟩ := oI h
      have h := hO3
      rw [e1, e2] at h
      clear e1 e2
      clear hO3
      refine Or.inr (⟨Or.inr (Or.inr (⟨hc4, hc8⟩)), ?_⟩)
      exact zret zy_150 h rfl rfl
theorem t_hld_6 {sv : Nat → Int32} {L n : Nat} {lf : dlf} {g : cg} {o : cg × Option cv} {k P Q T : Nat} (rk : k ≤ 59) (rP : P ≤ 5) (rQ : Q ≤ 4) (rT : T ≤ 7) (hK : g 9 k = 6) (hp : g 11 k = (P : Int)) (hq : g 12 k = (Q : Int)) (ht : g 13 k = (T : Int)) (h : zr sv L n 150 0 lf [] g o) (hl0 : lf 0 = (4, 107)) (hl1 : lf 1 = (0, (k : Int))) : ∃ g_1 r_1, zr sv L n 98 0 (darg 0 [(4, 3), (0, (P : Int)), (0, (Q : Int)), (0, (T : Int))]) [] g (g_1, some (0, r_1)) ∧ (((r_1 ≤ 0) ∧ (o = (g_1, some (0, 0)))) ∨ ((0 < r_1) ∧ (o = (g_1, some (0, 1))))) := by
  rw [zov hl0, zov hl1] at h
  have h := zm zy_150 h 4 (q := (8, dset (dset lf 1 (0, (k : Int))) 0 (4, 107), [(0, (k : Int)), (4, 9)], g)) rfl
  dsimp only at h
  have h := zald zy_150 h rfl rfl (dvb_9 (i := (k : Int)) (by omega) (by omega))
  dsimp only at h
  try rw [show ((k : Int)).toNat = k from by omega] at h
  try rw [hK] at h
  have h := zm zy_150 h 7 (q := (87, dset (dset lf 1 (0, (k : Int))) 0 (4, 107), [(0, (k : Int)), (4, 11), (4, 3)], g)) rfl
  dsimp only at h
  have h := zald zy_150 h rfl rfl (dvb_11 (i := (k : Int)) (by omega) (by omega))
  dsimp only at h
  try rw [show ((k : Int)).toNat = k from by omega] at h
  try rw [hp] at h
  have h := zm zy_150 h 4 (q := (96, dset (dset lf 1 (0, (k : Int))) 0 (4, 107), [(0, (k : Int)), (4, 12), (0, (P : Int)), (4, 3)], g)) rfl
  dsimp only at h
  have h := zald zy_150 h rfl rfl (dvb_12 (i := (k : Int)) (by omega) (by omega))
  dsimp only at h
  try rw [show ((k : Int)).toNat = k from by omega] at h
  try rw [hq] at h
  have h := zm zy_150 h 4 (q := (105, dset (dset lf 1 (0, (k : Int))) 0 (4, 107), [(0, (k : Int)), (4, 13), (0, (Q : Int)), (0, (P : Int)), (4, 3)], g)) rfl
  dsimp only at h
  have h := zald zy_150 h rfl rfl (dvb_13 (i := (k : Int)) (by omega) (by omega))
  dsimp only at h
  try rw [show ((k : Int)).toNat = k from by omega] at h
  try rw [ht] at h
  obtain ⟨g_1, r_1, hk, h⟩ := zcallI zy_150 h rfl rfl zy_98 zk_98
  dsimp only at hk h
  refine ⟨g_1, r_1, hk, ?_⟩
  have h := zm zy_150 h 1 (q := (cond (crel .le r_1 0) 116 112, dset (dset lf 1 (0, (k : Int))) 0 (4, 107), [], g_1)) rfl
  dsimp only at h
  rcases zif_le h with ⟨hc1, h⟩ | ⟨hc1, h⟩
  · have h := zm zy_150 h 1 (q := (117, dset (dset lf 1 (0, (k : Int))) 0 (4, 107), [(0, 0)], g_1)) rfl
    dsimp only at h
    refine Or.inl (⟨hc1, ?_⟩)
    exact zret zy_150 h rfl rfl
  · have h := zm zy_150 h 2 (q := (117, dset (dset lf 1 (0, (k : Int))) 0 (4, 107), [(0, 1)], g_1)) rfl
    dsimp only at h
    refine Or.inr (⟨hc1, ?_⟩)
    exact zret zy_150 h rfl rfl
theorem t_swt {sv : Nat → Int32} {L n : Nat} {lf : dlf} {g : cg} {o : cg × Option cv} {k W P Q T : Nat} (rk : k ≤ 59) (rW : W ≤ 5) (rP : P ≤ 5) (rQ : Q ≤ 4) (rT : T ≤ 7) (hp : g 11 k = (P : Int)) (hq : g 12 k = (Q : Int)) (ht : g 13 k = (T : Int)) (hw : g 10 k = (W : Int)) (h : zr sv L n 158 0 lf [] g o) (hl0 : lf 0 = (4, 107)) (hl1 : lf 1 = (0, (k : Int))) : ∃ g_1, zr sv L n 91 0 (darg 0 [(4, 110), (0, (W : Int)), (0, (P : Int))]) [] g (g_1, none) ∧ (∃ g_2 r_2, zr sv L n 94 0 (darg 0 [(4, 110), (0, (Q : Int)), (0, (T : Int))]) [] g_1 (g_2, some (0, r_2)) ∧ (((r_2 = 0) ∧ (∃ g_3 r_3, zr sv L n 96 0 (darg 0 [(4, 110), (0, (Q : Int)), (0, (T : Int))]) [] g_2 (g_3, some (0, r_3)) ∧ (∃ g_4 r_4, zr sv L n 103 0 (darg 0 [(4, 3), (0, g_3 110 1), (0, g_3 110 2), (0, (Q : Int)), (0, (T : Int)), (0, r_3)]) [] g_3 (g_4, some (0, r_4)) ∧ (∃ g_5, zr sv L n 157 0 (darg 0 [(4, 107), (0, r_4)]) [] g_4 (g_5, none) ∧ (o = (g_5, none)))))) ∨ ((r_2 ≠ 0) ∧ (o = (cup g_2 107 8 (w32 ((g_2 107 8) + 1)), none))))) := by
  rw [zov hl0, zov hl1] at h
  have h := zm zy_158 h 4 (q := (8, dset (dset lf 1 (0, (k : Int))) 0 (4, 107), [(0, (k : Int)), (4, 12)], g)) rfl
  dsimp only at h
  have h := zald zy_158 h rfl rfl (dvb_12 (i := (k : Int)) (by omega) (by omega))
  dsimp only at h
  try rw [show ((k : Int)).toNat = k from by omega] at h
  try rw [hq] at h
  have h := zm zy_158 h 5 (q := (18, dset (dset (dset lf 1 (0, (k : Int))) 0 (4, 107)) 2 (0, (Q : Int)), [(0, (k : Int)), (4, 13)], g)) rfl
  dsimp only at h
  have h := zald zy_158 h rfl rfl (dvb_13 (i := (k : Int)) (by omega) (by omega))
  dsimp only at h
  try rw [show ((k : Int)).toNat = k from by omega] at h
  try rw [ht] at h
  have h := zm zy_158 h 7 (q := (32, dset (dset (dset (dset lf 1 (0, (k : Int))) 0 (4, 107)) 2 (0, (Q : Int))) 3 (0, (T : Int)), [(0, (k : Int)), (4, 10), (4, 110)], g)) rfl
  dsimp only at h
  have h := zald zy_158 h rfl rfl (dvb_10 (i := (k : Int)) (by omega) (by omega))
  dsimp only at h
  try rw [show ((k : Int)).toNat = k from by omega] at h
  try rw [hw] at h
  have h := zm zy_158 h 4 (q := (41, dset (dset (dset (dset lf 1 (0, (k : Int))) 0 (4, 107)) 2 (0, (Q : Int))) 3 (0, (T : Int)), [(0, (k : Int)), (4, 11), (0, (W : Int)), (4, 110)], g)) rfl
  dsimp only at h
  have h := zald zy_158 h rfl rfl (dvb_11 (i := (k : Int)) (by omega) (by omega))
  dsimp only at h
  try rw [show ((k : Int)).toNat = k from by omega] at h
  try rw [hp] at h
  obtain ⟨g_1, hk, h⟩ := zcallV zy_158 h rfl rfl zy_91 zk_91
  dsimp only at hk h
  refine ⟨g_1, hk, ?_⟩
  have h := zm zy_158 h 4 (q := (51, dset (dset (dset (dset lf 1 (0, (k : Int))) 0 (4, 107)) 2 (0, (Q : Int))) 3 (0, (T : Int)), [(0, (T : Int)), (0, (Q : Int)), (4, 110)], g_1)) rfl
  dsimp only at h
  obtain ⟨g_2, r_2, hk, h⟩ := zcallI zy_158 h rfl rfl zy_94 zk_94
  dsimp only at hk h
  refine ⟨g_2, r_2, hk, ?_⟩
  have h := zm zy_158 h 1 (q := (cond (crel .eq r_2 0) 68 57, dset (dset (dset (dset lf 1 (0, (k : Int))) 0 (4, 107)) 2 (0, (Q : Int))) 3 (0, (T : Int)), [], g_2)) rfl
  dsimp only at h
  rcases zif_eq h with ⟨hc1, h⟩ | ⟨hc1, h⟩
  · have h := zm zy_158 h 4 (q := (74, dset (dset (dset (dset lf 1 (0, (k : Int))) 0 (4, 107)) 2 (0, (Q : Int))) 3 (0, (T : Int)), [(0, (T : Int)), (0, (Q : Int)), (4, 110)], g_2)) rfl
    dsimp only at h
    obtain ⟨g_3, r_3, hk, h⟩ := zcallI zy_158 h rfl rfl zy_96 zk_96
    dsimp only at hk h
    refine Or.inl (⟨hc1, ?_⟩)
    refine ⟨g_3, r_3, hk, ?_⟩
    have h := zm zy_158 h 13 (q := (102, dset (dset (dset (dset (dset lf 1 (0, (k : Int))) 0 (4, 107)) 2 (0, (Q : Int))) 3 (0, (T : Int))) 4 (0, r_3), [(0, r_3), (0, (T : Int)), (0, (Q : Int)), (0, g_3 110 2), (0, g_3 110 1), (4, 3), (4, 107)], g_3)) rfl
    dsimp only at h
    obtain ⟨g_4, r_4, hk, h⟩ := zcallI zy_158 h rfl rfl zy_103 zk_103
    dsimp only at hk h
    refine ⟨g_4, r_4, hk, ?_⟩
    obtain ⟨g_5, hk, h⟩ := zcallV zy_158 h rfl rfl zy_157 zk_157
    dsimp only at hk h
    refine ⟨g_5, hk, ?_⟩
    exact zret zy_158 h rfl rfl
  · have h := zm zy_158 h 6 (q := (67, dset (dset (dset (dset lf 1 (0, (k : Int))) 0 (4, 107)) 2 (0, (Q : Int))) 3 (0, (T : Int)), [], cup g_2 107 8 (w32 ((g_2 107 8) + 1)))) rfl
    dsimp only at h
    refine Or.inr (⟨hc1, ?_⟩)
    exact zret zy_158 h rfl rfl
theorem t_note {sv : Nat → Int32} {L n : Nat} {lf : dlf} {g : cg} {o : cg × Option cv} {k N : Nat} (rk : k ≤ 15) (rN : N ≤ 16) (hN : g 3 9 = (N : Int)) (h : zr sv L n 157 0 lf [] g o) (hl0 : lf 0 = (4, 107)) (hl1 : lf 1 = (0, (k : Int))) : (((N : Int) ≤ (k : Int)) ∧ (o = (g, none))) ∨ (((k : Int) < (N : Int)) ∧ (o = (cup (cup (cup g (29 + k) 7 (g 107 6)) 107 10 (w32 ((g 107 10) + (g (29 + k) 4)))) 107 9 (w32 ((g 107 9) + 1)), none))) := by
  rw [zov hl0, zov hl1] at h
  have h := zm zy_157 h 3 (q := (5, dset (dset lf 1 (0, (k : Int))) 0 (4, 107), [(0, (k : Int)), (4, 3)], g)) rfl
  dsimp only at h
  obtain ⟨gz1, rz2, hk, h⟩ := zcallI zy_157 h rfl rfl zy_87 zk_87
  dsimp only at hk h
  have hO3 := h
  have h := hk
  clear hk
  have h := zm zy_87 h 2 (q := (cond (crel .lt ((k : Int)) 0) 16 4, darg 0 [(4, 3), (0, (k : Int))], [], g)) rfl
  dsimp only at h
  rcases zif_lt h with ⟨hc4, h⟩ | ⟨hc4, h⟩
  · exact absurd hc4 (by omega)
  · have h := zm zy_87 h 4 (q := (cond (crel .ge ((k : Int)) (g 3 9)) 16 12, darg 0 [(4, 3), (0, (k : Int))], [], g)) rfl
    dsimp only at h
    try rw [hN] at h
    rcases zif_ge h with ⟨hc5, h⟩ | ⟨hc5, h⟩
    · have h := zm zy_87 h 1 (q := (17, darg 0 [(4, 3), (0, (k : Int))], [(0, 0)], g)) rfl
      dsimp only at h
      have h := zret zy_87 h rfl rfl
      obtain ⟨e1, e2⟩ := oI h
      have h := hO3
      rw [e1, e2] at h
      clear e1 e2
      clear hO3
      have h := zm zy_157 h 1 (q := (58, dset (dset lf 1 (0, (k : Int))) 0 (4, 107), [], g)) rfl
      dsimp only at h
      refine Or.inl (⟨hc5, ?_⟩)
      exact zret zy_157 h rfl rfl
    · have h := zm zy_87 h 2 (q := (17, darg 0 [(4, 3), (0, (k : Int))], [(0, 1)], g)) rfl
      dsimp only at h
      have h := zret zy_87 h rfl rfl
      obtain ⟨e1, e2⟩ := oI h
      have h := hO3
      rw [e1, e2] at h
      clear e1 e2
      clear hO3
      have h := zm zy_157 h 5 (q := (19, dset (dset lf 1 (0, (k : Int))) 0 (4, 107), [(0, (k : Int)), (4, 7)], g)) rfl
      dsimp only at h
      have h := zald zy_157 h rfl rfl (dvp_7 (i := (k : Int)) (by omega) (by omega))
      dsimp only at h
      have h := zm zy_157 h 6 (q := (32, dset (dset lf 1 (0, (k : Int))) 0 (4, 107), [(0, (cup g ((29 + ((k : Int))).toNat) 7 (g 107 6)) 107 10), (4, 107)], cup g ((29 + ((k : Int))).toNat) 7 (g 107 6))) rfl
      dsimp only at h
      try rw [show (29 + ((k : Int))).toNat = 29 + k from by omega] at h
      try rw [cup_ne (g := g) (k := 29 + k) (j := 7) (k' := 107) (j' := 10) (by omega)] at h
      have h := zm zy_157 h 4 (q := (40, dset (dset lf 1 (0, (k : Int))) 0 (4, 107), [(0, (k : Int)), (4, 7), (0, g 107 10), (4, 107)], cup g (29 + k) 7 (g 107 6))) rfl
      dsimp only at h
      have h := zald zy_157 h rfl rfl (dvp_7 (i := (k : Int)) (by omega) (by omega))
      dsimp only at h
      have h := zgf zy_157 h rfl rfl (dvf_29_4 (i := (k : Int)) (by omega) (by omega))
      dsimp only at h
      try rw [show (29 + ((k : Int))).toNat = 29 + k from by omega] at h
      try rw [cup_ne (g := g) (k := 29 + k) (j := 7) (k' := 29 + k) (j' := 4) (by omega)] at h
      have h := zm zy_157 h 5 (q := (53, dset (dset lf 1 (0, (k : Int))) 0 (4, 107), [(0, (cup (cup g (29 + k) 7 (g 107 6)) 107 10 (w32 ((g 107 10) + (g (29 + k) 4)))) 107 9), (4, 107)], cup (cup g (29 + k) 7 (g 107 6)) 107 10 (w32 ((g 107 10) + (g (29 + k) 4))))) rfl
      dsimp only at h
      try rw [cup_ne (g := cup g (29 + k) 7 (g 107 6)) (k := 107) (j := 10) (k' := 107) (j' := 9) (by omega)] at h
      try rw [cup_ne (g := g) (k := 29 + k) (j := 7) (k' := 107) (j' := 9) (by omega)] at h
      have h := zm zy_157 h 3 (q := (58, dset (dset lf 1 (0, (k : Int))) 0 (4, 107), [], cup (cup (cup g (29 + k) 7 (g 107 6)) 107 10 (w32 ((g 107 10) + (g (29 + k) 4)))) 107 9 (w32 ((g 107 9) + 1)))) rfl
      dsimp only at h
      refine Or.inr (⟨hc5, ?_⟩)
      exact zret zy_157 h rfl rfl
theorem t_draw {sv : Nat → Int32} {L n : Nat} {lf : dlf} {g : cg} {o : cg × Option cv} {m dr : Nat} (rm : m ≤ 40) (rdr : dr ≤ 65535) (hd : g 107 5 = (dr : Int)) (h : zr sv L n 156 0 lf [] g o) (hl0 : lf 0 = (4, 107)) (hl1 : lf 1 = (0, (m : Int))) : ((0 < (m : Int)) ∧ (o = (cup g 107 5 (qre (11149 + 2953 * (dr : Int)) 65536), some (0, qre (qdi (qre (11149 + 2953 * (dr : Int)) 65536) 8) ((m : Int)))))) ∨ (((m : Int) ≤ 0) ∧ (o = (cup g 107 5 (qre (11149 + 2953 * (dr : Int)) 65536), some (0, 0)))) := by
  rw [zov hl0, zov hl1] at h
  have h := zm zy_156 h 12 (q := (cond (crel .gt ((m : Int)) 0) 27 23, dset (dset lf 1 (0, (m : Int))) 0 (4, 107), [], cup g 107 5 (qre (w32 ((w32 ((g 107 5) * 2953)) + 11149)) 65536))) rfl
  dsimp only at h
  try rw [hd] at h
  try rw [w32_eq (z := ((dr : Int)) * 2953) (v := 2953 * (dr : Int)) (by omega) (by omega) (by omega)] at h
  try rw [w32_eq (z := (2953 * (dr : Int)) + 11149) (v := 11149 + 2953 * (dr : Int)) (by omega) (by omega) (by omega)] at h
  rcases zif_gt h with ⟨hc1, h⟩ | ⟨hc1, h⟩
  · have h := zm zy_156 h 6 (q := (36, dset (dset lf 1 (0, (m : Int))) 0 (4, 107), [(0, qre (qdi (qre (11149 + 2953 * (dr : Int)) 65536) 8) ((m : Int)))], cup g 107 5 (qre (11149 + 2953 * (dr : Int)) 65536))) rfl
    dsimp only at h
    refine Or.inl (⟨hc1, ?_⟩)
    exact zret zy_156 h rfl rfl
  · have h := zm zy_156 h 2 (q := (36, dset (dset lf 1 (0, (m : Int))) 0 (4, 107), [(0, 0)], cup g 107 5 (qre (11149 + 2953 * (dr : Int)) 65536))) rfl
    dsimp only at h
    refine Or.inr (⟨hc1, ?_⟩)
    exact zret zy_156 h rfl rfl
theorem t_swy0 {sv : Nat → Int32} {L n : Nat} {lf : dlf} {g : cg} {o : cg × Option cv} {k W P : Nat} (rk : k ≤ 59) (rW : W ≤ 5) (rP : P ≤ 5) (hp : g 11 k = (P : Int)) (hw : g 10 k = (W : Int)) (h : zr sv L n 155 0 lf [] g o) (hl0 : lf 0 = (4, 107)) (hl1 : lf 1 = (0, (k : Int))) : ∃ g_1, zr sv L n 91 0 (darg 0 [(4, 110), (0, (W : Int)), (0, (P : Int))]) [] g (g_1, none) ∧ (∃ lf', lf' 0 = (4, 107) ∧ lf' 2 = (0, 0) ∧ lf' 3 = (0, 0) ∧ zr sv L n 155 29 lf' [] g_1 o) := by
  rw [zov hl0, zov hl1] at h
  have h := zm zy_155 h 6 (q := (12, dset (dset lf 1 (0, (k : Int))) 0 (4, 107), [(0, (k : Int)), (4, 10), (4, 110)], g)) rfl
  dsimp only at h
  have h := zald zy_155 h rfl rfl (dvb_10 (i := (k : Int)) (by omega) (by omega))
  dsimp only at h
  try rw [show ((k : Int)).toNat = k from by omega] at h
  try rw [hw] at h
  have h := zm zy_155 h 4 (q := (21, dset (dset lf 1 (0, (k : Int))) 0 (4, 107), [(0, (k : Int)), (4, 11), (0, (W : Int)), (4, 110)], g)) rfl
  dsimp only at h
  have h := zald zy_155 h rfl rfl (dvb_11 (i := (k : Int)) (by omega) (by omega))
  dsimp only at h
  try rw [show ((k : Int)).toNat = k from by omega] at h
  try rw [hp] at h
  obtain ⟨g_1, hk, h⟩ := zcallV zy_155 h rfl rfl zy_91 zk_91
  dsimp only at hk h
  refine ⟨g_1, hk, ?_⟩
  have h := zm zy_155 h 4 (q := (29, dset (dset (dset (dset lf 1 (0, (k : Int))) 0 (4, 107)) 2 (0, 0)) 3 (0, 0), [], g_1)) rfl
  dsimp only at h
  exact ⟨_, rfl, rfl, rfl, h⟩
theorem t_swy29s {sv : Nat → Int32} {L n : Nat} {lf : dlf} {g : cg} {o : cg × Option cv} {m t : Nat} (rm : m ≤ 40) (rt : t ≤ 7) (h : zr sv L (n + 1) 155 29 lf [] g o) (hl0 : lf 0 = (4, 107)) (hl2 : lf 2 = (0, (m : Int))) (hl3 : lf 3 = (0, (t : Int))) : ∃ lf', lf' 0 = (4, 107) ∧ lf' 2 = (0, (m : Int)) ∧ lf' 3 = (0, (t : Int)) ∧ lf' 4 = (0, 0) ∧ zr sv L n 155 38 lf' [] g o := by
  rw [zov hl0, zov hl2, zov hl3] at h
  have h := zm1 zy_155 h 2 (q := (cond (crel .ge ((t : Int)) 8) 90 35, dset (dset (dset lf 3 (0, (t : Int))) 2 (0, (m : Int))) 0 (4, 107), [], g)) rfl
  dsimp only at h
  rcases zif_ge h with ⟨hc1, h⟩ | ⟨hc1, h⟩
  · exact absurd hc1 (by omega)
  · have h := zm zy_155 h 2 (q := (38, dset (dset (dset (dset lf 3 (0, (t : Int))) 2 (0, (m : Int))) 0 (4, 107)) 4 (0, 0), [], g)) rfl
    dsimp only at h
    exact ⟨_, rfl, rfl, rfl, rfl, h⟩
theorem t_swy29e {sv : Nat → Int32} {L n : Nat} {lf : dlf} {g : cg} {o : cg × Option cv} {m : Nat} (rm : m ≤ 40) (h : zr sv L (n + 1) 155 29 lf [] g o) (hl0 : lf 0 = (4, 107)) (hl2 : lf 2 = (0, (m : Int))) (hl3 : lf 3 = (0, 8)) : (((m : Int) ≠ 0) ∧ (∃ g_1 r_1, zr sv L n 156 0 (darg 0 [(4, 107), (0, (m : Int))]) [] g (g_1, some (0, r_1)) ∧ (0 ≤ r_1 → r_1 < 40 → (∃ g_2 r_2, zr sv L n 96 0 (darg 0 [(4, 110), (0, qre (g_1 109 r_1.toNat) 5), (0, qdi (g_1 109 r_1.toNat) 5)]) [] g_1 (g_2, some (0, r_2)) ∧ (∃ g_3 r_3, zr sv L n 103 0 (darg 0 [(4, 3), (0, g_1 110 1), (0, g_1 110 2), (0, qre (g_1 109 r_1.toNat) 5), (0, qdi (g_1 109 r_1.toNat) 5), (0, r_2)]) [] g_2 (g_3, some (0, r_3)) ∧ (∃ g_4, zr sv L n 157 0 (darg 0 [(4, 107), (0, r_3)]) [] g_3 (g_4, none) ∧ (o = (g_4, none)))))))) ∨ (((m : Int) = 0) ∧ (o = (cup g 107 8 (w32 ((g 107 8) + 1)), none))) := by
  rw [zov hl0, zov hl2, zov hl3] at h
  have h := zm1 zy_155 h 4 (q := (cond (crel .ne ((m : Int)) 0) 105 94, dset (dset (dset lf 3 (0, 8)) 2 (0, (m : Int))) 0 (4, 107), [], g)) rfl
  dsimp only at h
  rcases zif_ne h with ⟨hc1, h⟩ | ⟨hc1, h⟩
  · have h := zm zy_155 h 4 (q := (111, dset (dset (dset lf 3 (0, 8)) 2 (0, (m : Int))) 0 (4, 107), [(0, (m : Int)), (4, 107), (4, 109)], g)) rfl
    dsimp only at h
    obtain ⟨g_1, r_1, hk, h⟩ := zcallI zy_155 h rfl rfl zy_156 zk_156
    dsimp only at hk h
    refine Or.inl (⟨hc1, ?_⟩)
    refine ⟨g_1, r_1, hk, ?_⟩
    intro ha2 hb3
    have h := zald zy_155 h rfl rfl (dvb_109 (i := r_1) ha2 hb3)
    dsimp only at h
    have h := zm zy_155 h 24 (q := (157, dset (dset (dset (dset (dset (dset lf 3 (0, 8)) 2 (0, (m : Int))) 0 (4, 107)) 3 (0, g_1 109 r_1.toNat)) 4 (0, qre (g_1 109 r_1.toNat) 5)) 5 (0, qdi (g_1 109 r_1.toNat) 5), [(0, qdi (g_1 109 r_1.toNat) 5), (0, qre (g_1 109 r_1.toNat) 5), (4, 110), (0, qdi (g_1 109 r_1.toNat) 5), (0, qre (g_1 109 r_1.toNat) 5), (0, g_1 110 2), (0, g_1 110 1), (4, 3), (4, 107)], g_1)) rfl
    dsimp only at h
    obtain ⟨g_2, r_2, hk, h⟩ := zcallI zy_155 h rfl rfl zy_96 zk_96
    dsimp only at hk h
    refine ⟨g_2, r_2, hk, ?_⟩
    obtain ⟨g_3, r_3, hk, h⟩ := zcallI zy_155 h rfl rfl zy_103 zk_103
    dsimp only at hk h
    refine ⟨g_3, r_3, hk, ?_⟩
    obtain ⟨g_4, hk, h⟩ := zcallV zy_155 h rfl rfl zy_157 zk_157
    dsimp only at hk h
    refine ⟨g_4, hk, ?_⟩
    exact zret zy_155 h rfl rfl
  · have h := zm zy_155 h 6 (q := (104, dset (dset (dset lf 3 (0, 8)) 2 (0, (m : Int))) 0 (4, 107), [], cup g 107 8 (w32 ((g 107 8) + 1)))) rfl
    dsimp only at h
    refine Or.inr (⟨hc1, ?_⟩)
    exact zret zy_155 h rfl rfl
theorem t_swy38s {sv : Nat → Int32} {L n : Nat} {lf : dlf} {g : cg} {o : cg × Option cv} {m t q N : Nat} (rm : m ≤ 39) (rt : t ≤ 7) (rq : q ≤ 4) (rN : N ≤ 5) (hN : g 3 0 = (N : Int)) (hlt : q < N) (h : zr sv L (n + 1) 155 38 lf [] g o) (hl0 : lf 0 = (4, 107)) (hl2 : lf 2 = (0, (m : Int))) (hl3 : lf 3 = (0, (t : Int))) (hl4 : lf 4 = (0, (q : Int))) : ∃ g_1 r_1, zr sv L n 94 0 (darg 0 [(4, 110), (0, (q : Int)), (0, (t : Int))]) [] g (g_1, some (0, r_1)) ∧ (((r_1 ≠ 0) ∧ (∃ lf', lf' 0 = (4, 107) ∧ lf' 2 = (0, (m : Int)) ∧ lf' 3 = (0, (t : Int)) ∧ lf' 4 = (0, 1 + (q : Int)) ∧ zr sv L n 155 38 lf' [] g_1 o)) ∨ ((r_1 = 0) ∧ (∃ lf', lf' 0 = (4, 107) ∧ lf' 2 = (0, 1 + (m : Int)) ∧ lf' 3 = (0, (t : Int)) ∧ lf' 4 = (0, 1 + (q : Int)) ∧ zr sv L n 155 38 lf' [] (cup g_1 109 m ((q : Int) + 5 * (t : Int))) o))) := by
  rw [zov hl0, zov hl2, zov hl3, zov hl4] at h
  have h := zm1 zy_155 h 4 (q := (cond (crel .ge ((q : Int)) (g 3 0)) 84 50, dset (dset (dset (dset lf 4 (0, (q : Int))) 3 (0, (t : Int))) 2 (0, (m : Int))) 0 (4, 107), [], g)) rfl
  dsimp only at h
  try rw [hN] at h
  rcases zif_ge h with ⟨hc1, h⟩ | ⟨hc1, h⟩
  · exact absurd hc1 (by omega)
  · have h := zm zy_155 h 4 (q := (57, dset (dset (dset (dset lf 4 (0, (q : Int))) 3 (0, (t : Int))) 2 (0, (m : Int))) 0 (4, 107), [(0, (t : Int)), (0, (q : Int)), (4, 110)], g)) rfl
    dsimp only at h
    obtain ⟨g_1, r_1, hk, h⟩ := zcallI zy_155 h rfl rfl zy_94 zk_94
    dsimp only at hk h
    refine ⟨g_1, r_1, hk, ?_⟩
    have h := zm zy_155 h 1 (q := (cond (crel .ne r_1 0) 78 63, dset (dset (dset (dset lf 4 (0, (q : Int))) 3 (0, (t : Int))) 2 (0, (m : Int))) 0 (4, 107), [], g_1)) rfl
    dsimp only at h
    rcases zif_ne h with ⟨hc2, h⟩ | ⟨hc2, h⟩
    · have h := zm zy_155 h 2 (q := (38, dset (dset (dset (dset (dset lf 4 (0, (q : Int))) 3 (0, (t : Int))) 2 (0, (m : Int))) 0 (4, 107)) 4 (0, w32 (((q : Int)) + 1)), [], g_1)) rfl
      dsimp only at h
      try rw [w32_eq (z := ((q : Int)) + 1) (v := 1 + (q : Int)) (by omega) (by omega) (by omega)] at h
      refine Or.inl (⟨hc2, ?_⟩)
      exact ⟨_, rfl, rfl, rfl, rfl, h⟩
    · have h := zm zy_155 h 12 (q := (38, dset (dset (dset (dset (dset (dset lf 4 (0, (q : Int))) 3 (0, (t : Int))) 2 (0, (m : Int))) 0 (4, 107)) 2 (0, w32 (((m : Int)) + 1))) 4 (0, w32 (((q : Int)) + 1)), [], cup g_1 109 (((m : Int)).toNat) (w32 ((w32 (((t : Int)) * 5)) + ((q : Int)))))) rfl
      dsimp only at h
      try rw [w32_eq (z := ((m : Int)) + 1) (v := 1 + (m : Int)) (by omega) (by omega) (by omega)] at h
      try rw [w32_eq (z := ((q : Int)) + 1) (v := 1 + (q : Int)) (by omega) (by omega) (by omega)] at h
      try rw [show ((m : Int)).toNat = m from by omega] at h
      try rw [w32_eq (z := ((t : Int)) * 5) (v := 5 * (t : Int)) (by omega) (by omega) (by omega)] at h
      try rw [w32_eq (z := (5 * (t : Int)) + ((q : Int))) (v := (q : Int) + 5 * (t : Int)) (by omega) (by omega) (by omega)] at h
      refine Or.inr (⟨hc2, ?_⟩)
      exact ⟨_, rfl, rfl, rfl, rfl, h⟩
theorem t_swy38e {sv : Nat → Int32} {L n : Nat} {lf : dlf} {g : cg} {o : cg × Option cv} {m t q N : Nat} (rm : m ≤ 40) (rt : t ≤ 7) (rq : q ≤ 5) (rN : N ≤ 5) (hN : g 3 0 = (N : Int)) (hge : N ≤ q) (h : zr sv L (n + 1) 155 38 lf [] g o) (hl0 : lf 0 = (4, 107)) (hl2 : lf 2 = (0, (m : Int))) (hl3 : lf 3 = (0, (t : Int))) (hl4 : lf 4 = (0, (q : Int))) : ∃ lf', lf' 0 = (4, 107) ∧ lf' 2 = (0, (m : Int)) ∧ lf' 3 = (0, 1 + (t : Int)) ∧ zr sv L n 155 29 lf' [] g o := by
  rw [zov hl0, zov hl2, zov hl3, zov hl4] at h
  have h := zm1 zy_155 h 4 (q := (cond (crel .ge ((q : Int)) (g 3 0)) 84 50, dset (dset (dset (dset lf 4 (0, (q : Int))) 3 (0, (t : Int))) 2 (0, (m : Int))) 0 (4, 107), [], g)) rfl
  dsimp only at h
  try rw [hN] at h
  rcases zif_ge h with ⟨hc1, h⟩ | ⟨hc1, h⟩
  · have h := zm zy_155 h 2 (q := (29, dset (dset (dset (dset (dset lf 4 (0, (q : Int))) 3 (0, (t : Int))) 2 (0, (m : Int))) 0 (4, 107)) 3 (0, w32 (((t : Int)) + 1)), [], g)) rfl
    dsimp only at h
    try rw [w32_eq (z := ((t : Int)) + 1) (v := 1 + (t : Int)) (by omega) (by omega) (by omega)] at h
    exact ⟨_, rfl, rfl, rfl, h⟩
  · exact absurd hc1 (by omega)
theorem t_rcl {sv : Nat → Int32} {L n : Nat} {lf : dlf} {g : cg} {o : cg × Option cv} {W : Nat} (rW : W ≤ 5) (h : zr sv L n 153 0 lf [] g o) (hl0 : lf 0 = (4, 107)) (hl1 : lf 1 = (0, (W : Int))) : ∃ g_1 r_1, zr sv L n 154 0 (darg 0 [(4, 3), (0, (W : Int))]) [] g (g_1, some (0, r_1)) ∧ ((((r_1 < 0) ∨ (0 ≤ r_1 ∧ g_1 3 9 ≤ r_1)) ∧ (o = (cup g_1 107 8 (w32 ((g_1 107 8) + 1)), none))) ∨ ((0 ≤ r_1 ∧ r_1 < g_1 3 9) ∧ (∃ lf', lf' 0 = (4, 107) ∧ lf' 2 = (0, r_1) ∧ zr sv L n 153 20 lf' [] g_1 o))) := by
  rw [zov hl0, zov hl1] at h
  have h := zm zy_153 h 3 (q := (5, dset (dset lf 1 (0, (W : Int))) 0 (4, 107), [(0, (W : Int)), (4, 3)], g)) rfl
  dsimp only at h
  obtain ⟨g_1, r_1, hk, h⟩ := zcallI zy_153 h rfl rfl zy_154 zk_154
  dsimp only at hk h
  refine ⟨g_1, r_1, hk, ?_⟩
  have h := zm zy_153 h 4 (q := (14, dset (dset (dset lf 1 (0, (W : Int))) 0 (4, 107)) 2 (0, r_1), [(0, r_1), (4, 3)], g_1)) rfl
  dsimp only at h
  obtain ⟨gz1, rz2, hk, h⟩ := zcallI zy_153 h rfl rfl zy_87 zk_87
  dsimp only at hk h
  have hO3 := h
  have h := hk
  clear hk
  have h := zm zy_87 h 2 (q := (cond (crel .lt r_1 0) 16 4, darg 0 [(4, 3), (0, r_1)], [], g_1)) rfl
  dsimp only at h
  rcases zif_lt h with ⟨hc4, h⟩ | ⟨hc4, h⟩
  · have h := zm zy_87 h 1 (q := (17, darg 0 [(4, 3), (0, r_1)], [(0, 0)], g_1)) rfl
    dsimp only at h
    have h := zret zy_87 h rfl rfl
    obtain ⟨e1, e2⟩ := oI h
    have h := hO3
    rw [e1, e2] at h
    clear e1 e2
    clear hO3
    have h := zm zy_153 h 7 (q := (46, dset (dset (dset lf 1 (0, (W : Int))) 0 (4, 107)) 2 (0, r_1), [], cup g_1 107 8 (w32 ((g_1 107 8) + 1)))) rfl
    dsimp only at h
    refine Or.inl (⟨Or.inl (hc4), ?_⟩)
    exact zret zy_153 h rfl rfl
  · have h := zm zy_87 h 4 (q := (cond (crel .ge r_1 (g_1 3 9)) 16 12, darg 0 [(4, 3), (0, r_1)], [], g_1)) rfl
    dsimp only at h
    rcases zif_ge h with ⟨hc5, h⟩ | ⟨hc5, h⟩
    · have h := zm zy_87 h 1 (q := (17, darg 0 [(4, 3), (0, r_1)], [(0, 0)], g_1)) rfl
      dsimp only at h
      have h := zret zy_87 h rfl rfl
      obtain ⟨e1, e2⟩ := oI h
      have h := hO3
      rw [e1, e2] at h
      clear e1 e2
      clear hO3
      have h := zm zy_153 h 7 (q := (46, dset (dset (dset lf 1 (0, (W : Int))) 0 (4, 107)) 2 (0, r_1), [], cup g_1 107 8 (w32 ((g_1 107 8) + 1)))) rfl
      dsimp only at h
      refine Or.inl (⟨Or.inr (⟨hc4, hc5⟩), ?_⟩)
      exact zret zy_153 h rfl rfl
    · have h := zm zy_87 h 2 (q := (17, darg 0 [(4, 3), (0, r_1)], [(0, 1)], g_1)) rfl
      dsimp only at h
      have h := zret zy_87 h rfl rfl
      obtain ⟨e1, e2⟩ := oI h
      have h := hO3
      rw [e1, e2] at h
      clear e1 e2
      clear hO3
      have h := zm zy_153 h 1 (q := (20, dset (dset (dset lf 1 (0, (W : Int))) 0 (4, 107)) 2 (0, r_1), [], g_1)) rfl
      dsimp only at h
      refine Or.inr (⟨⟨hc4, hc5⟩, ?_⟩)
      exact ⟨_, rfl, rfl, h⟩
theorem t_rcl20 {sv : Nat → Int32} {L n : Nat} {lf : dlf} {g : cg} {o : cg × Option cv} {k : Nat} (rk : k ≤ 15) (h : zr sv L n 153 20 lf [] g o) (hl0 : lf 0 = (4, 107)) (hl2 : lf 2 = (0, (k : Int))) : o = (cup g (29 + k) 5 2, none) := by
  rw [zov hl0, zov hl2] at h
  have h := zm zy_153 h 4 (q := (28, dset (dset lf 2 (0, (k : Int))) 0 (4, 107), [(0, (k : Int)), (4, 7)], g)) rfl
  dsimp only at h
  have h := zald zy_153 h rfl rfl (dvp_7 (i := (k : Int)) (by omega) (by omega))
  dsimp only at h
  have h := zm zy_153 h 3 (q := (46, dset (dset lf 2 (0, (k : Int))) 0 (4, 107), [], cup g ((29 + ((k : Int))).toNat) 5 2)) rfl
  dsimp only at h
  try rw [show (29 + ((k : Int))).toNat = 29 + k from by omega] at h
  exact zret zy_153 h rfl rfl
theorem t_lat0 {sv : Nat → Int32} {L n : Nat} {lf : dlf} {g : cg} {o : cg × Option cv} {W N : Nat} (rW : W ≤ 5) (rN : N ≤ 16) (hN : g 3 9 = (N : Int)) (h : zr sv L n 154 0 lf [] g o) (hl0 : lf 0 = (4, 3)) (hl1 : lf 1 = (0, (W : Int))) : ∃ lf', lf' 0 = (4, 3) ∧ lf' 1 = (0, (W : Int)) ∧ lf' 2 = (0, (N : Int) - 1) ∧ zr sv L n 154 7 lf' [] g o := by
  rw [zov hl0, zov hl1] at h
  have h := zm zy_154 h 5 (q := (7, dset (dset (dset lf 1 (0, (W : Int))) 0 (4, 3)) 2 (0, w32 ((g 3 9) - 1)), [], g)) rfl
  dsimp only at h
  try rw [hN] at h
  try rw [w32_eq (z := ((N : Int)) - 1) (v := (N : Int) - 1) (by omega) (by omega) (by omega)] at h
  exact ⟨_, rfl, rfl, rfl, h⟩
theorem t_lat_s {sv : Nat → Int32} {L n : Nat} {lf : dlf} {g : cg} {o : cg × Option cv} {W w p q t k : Nat} {f s b : Int} (rW : W ≤ 5) (rw : w ≤ 5) (rp : p ≤ 5) (rq : q ≤ 4) (rt : t ≤ 7) (rk : k ≤ 15) (hO : OHC g k w p q t f s b) (h : zr sv L (n + 1) 154 7 lf [] g o) (hl0 : lf 0 = (4, 3)) (hl1 : lf 1 = (0, (W : Int))) (hl2 : lf 2 = (0, (k : Int))) : ((((w : Int) ≠ (W : Int)) ∨ ((w : Int) = (W : Int) ∧ s ≠ 0)) ∧ (∃ lf', lf' 0 = (4, 3) ∧ lf' 1 = (0, (W : Int)) ∧ lf' 2 = (0, (k : Int) - 1) ∧ zr sv L n 154 7 lf' [] g o)) ∨ (((w : Int) = (W : Int) ∧ s = 0) ∧ (o = (g, some (0, (k : Int))))) := by
  rw [zov hl0, zov hl1, zov hl2] at h
  have h := zm1 zy_154 h 1 (q := (cond (crel .lt ((k : Int)) 0) 44 11, dset (dset (dset lf 2 (0, (k : Int))) 1 (0, (W : Int))) 0 (4, 3), [], g)) rfl
  dsimp only at h
  rcases zif_lt h with ⟨hc1, h⟩ | ⟨hc1, h⟩
  · exact absurd hc1 (by omega)
  · have h := zm zy_154 h 3 (q := (16, dset (dset (dset lf 2 (0, (k : Int))) 1 (0, (W : Int))) 0 (4, 3), [(0, (k : Int)), (4, 7)], g)) rfl
    dsimp only at h
    have h := zald zy_154 h rfl rfl (dvp_7 (i := (k : Int)) (by omega) (by omega))
    dsimp only at h
    have h := zgf zy_154 h rfl rfl (dvf_29_0 (i := (k : Int)) (by omega) (by omega))
    dsimp only at h
    try rw [show (29 + ((k : Int))).toNat = 29 + k from by omega] at h
    try rw [hO.1] at h
    have h := zm zy_154 h 2 (q := (cond (crel .ne ((w : Int)) ((W : Int))) 38 24, dset (dset (dset lf 2 (0, (k : Int))) 1 (0, (W : Int))) 0 (4, 3), [], g)) rfl
    dsimp only at h
    rcases zif_ne h with ⟨hc2, h⟩ | ⟨hc2, h⟩
    · have h := zm zy_154 h 2 (q := (7, dset (dset (dset (dset lf 2 (0, (k : Int))) 1 (0, (W : Int))) 0 (4, 3)) 2 (0, w32 (((k : Int)) + ((-1)))), [], g)) rfl
      dsimp only at h
      try rw [w32_eq (z := ((k : Int)) + ((-1))) (v := (k : Int) - 1) (by omega) (by omega) (by omega)] at h
      refine Or.inl (⟨Or.inl (hc2), ?_⟩)
      exact ⟨_, rfl, rfl, rfl, h⟩
    · have h := zm zy_154 h 3 (q := (29, dset (dset (dset lf 2 (0, (k : Int))) 1 (0, (W : Int))) 0 (4, 3), [(0, (k : Int)), (4, 7)], g)) rfl
      dsimp only at h
      have h := zald zy_154 h rfl rfl (dvp_7 (i := (k : Int)) (by omega) (by omega))
      dsimp only at h
      have h := zgf zy_154 h rfl rfl (dvf_29_5 (i := (k : Int)) (by omega) (by omega))
      dsimp only at h
      try rw [show (29 + ((k : Int))).toNat = 29 + k from by omega] at h
      try rw [hO.2.2.2.2.2.1] at h
      have h := zm zy_154 h 1 (q := (cond (crel .ne s 0) 38 36, dset (dset (dset lf 2 (0, (k : Int))) 1 (0, (W : Int))) 0 (4, 3), [], g)) rfl
      dsimp only at h
      rcases zif_ne h with ⟨hc4, h⟩ | ⟨hc4, h⟩
      · have h := zm zy_154 h 2 (q := (7, dset (dset (dset (dset lf 2 (0, (k : Int))) 1 (0, (W : Int))) 0 (4, 3)) 2 (0, w32 (((k : Int)) + ((-1)))), [], g)) rfl
        dsimp only at h
        try rw [w32_eq (z := ((k : Int)) + ((-1))) (v := (k : Int) - 1) (by omega) (by omega) (by omega)] at h
        refine Or.inl (⟨Or.inr (⟨hc2, hc4⟩), ?_⟩)
        exact ⟨_, rfl, rfl, rfl, h⟩
      · have h := zm zy_154 h 1 (q := (37, dset (dset (dset lf 2 (0, (k : Int))) 1 (0, (W : Int))) 0 (4, 3), [(0, (k : Int))], g)) rfl
        dsimp only at h
        refine Or.inr (⟨⟨hc2, hc4⟩, ?_⟩)
        exact zret zy_154 h rfl rfl
theorem t_lat_e {sv : Nat → Int32} {L n : Nat} {lf : dlf} {g : cg} {o : cg × Option cv} {W : Nat} (rW : W ≤ 5) (h : zr sv L (n + 1) 154 7 lf [] g o) (hl0 : lf 0 = (4, 3)) (hl1 : lf 1 = (0, (W : Int))) (hl2 : lf 2 = (0, (-1))) : o = (g, some (0, (-1))) := by
  rw [zov hl0, zov hl1, zov hl2] at h
  have h := zm1 zy_154 h 2 (q := (45, dset (dset (dset lf 2 (0, (-1))) 1 (0, (W : Int))) 0 (4, 3), [(0, (-1))], g)) rfl
  dsimp only at h
  exact zret zy_154 h rfl rfl
theorem m_liv {sv : Nat → Int32} {L n : Nat} {lf : dlf} {g : cg} {o : cg × Option cv} {a : Int} (h : zr sv L n 362 0 lf [] g o) (hl0 : lf 0 = (4, 253)) (hl1 : lf 1 = (0, a)) : (((csgn (a - 0) < 0) ∨ (0 ≤ csgn (a - 0) ∧ 0 < csgn (a - 9999))) ∧ (o = (cup g 253 2 1, some (0, (-1))))) ∨ ((0 ≤ csgn (a - 0) ∧ csgn (a - 9999) ≤ 0 ∧ g 254 7 ≠ (-1)) ∧ (∃ g_1, zr sv L n 248 0 (darg 0 [(4, 253), (0, a)]) [] g (g_1, none) ∧ (∃ lf', lf' 0 = (4, 253) ∧ lf' 2 = (0, 0) ∧ zr sv L n 362 43 lf' [] g_1 o))) ∨ ((0 ≤ csgn (a - 0) ∧ csgn (a - 9999) ≤ 0 ∧ g 254 7 = (-1)) ∧ (o = (cup g 253 2 6, some (0, (-1))))) := by
  rw [zov hl0, zov hl1] at h
  have h := zm zy_362 h 4 (q := (6, dset (dset lf 1 (0, a)) 0 (4, 253), [(2, 9999), (2, 0), (2, a)], g)) rfl
  dsimp only at h
  obtain ⟨gz1, rz2, hk, h⟩ := zcallI zy_362 h rfl rfl zy_236 zk_236
  dsimp only at hk h
  have hO3 := h
  have h := hk
  clear hk
  have h := zm zy_236 h 4 (q := (cond (crel .lt (csgn (a - 0)) 0) 17 6, darg 0 [(2, a), (2, 0), (2, 9999)], [], g)) rfl
  dsimp only at h
  rcases zif_lt h with ⟨hc4, h⟩ | ⟨hc4, h⟩
  · have h := zm zy_236 h 1 (q := (18, darg 0 [(2, a), (2, 0), (2, 9999)], [(0, 0)], g)) rfl
    dsimp only at h
    have h := zret zy_236 h rfl rfl
    obtain ⟨e1, e2⟩ := oI h
    have h := hO3
    rw [e1, e2] at h
    clear e1 e2
    clear hO3
    have h := zm zy_362 h 3 (q := (14, dset (dset lf 1 (0, a)) 0 (4, 253), [(0, 1), (4, 253)], g)) rfl
    dsimp only at h
    obtain ⟨gz5, rz6, hk, h⟩ := zcallI zy_362 h rfl rfl zy_170 zk_170
    dsimp only at hk h
    have hO7 := h
    have h := hk
    clear hk
    have h := zm zy_170 h 4 (q := (6, darg 0 [(4, 253), (0, 1)], [(0, (-1))], cup g 253 2 1)) rfl
    dsimp only at h
    have h := zret zy_170 h rfl rfl
    obtain ⟨e1, e2⟩ := oI h
    have h := hO7
    rw [e1, e2] at h
    clear e1 e2
    clear hO7
    refine Or.inl (⟨Or.inl (hc4), ?_⟩)
    exact zret zy_362 h rfl rfl
  · have h := zm zy_236 h 4 (q := (cond (crel .gt (csgn (a - 9999)) 0) 17 13, darg 0 [(2, a), (2, 0), (2, 9999)], [], g)) rfl
    dsimp only at h
    rcases zif_gt h with ⟨hc8, h⟩ | ⟨hc8, h⟩
    · have h := zm zy_236 h 1 (q := (18, darg 0 [(2, a), (2, 0), (2, 9999)], [(0, 0)], g)) rfl
      dsimp only at h
      have h := zret zy_236 h rfl rfl
      obtain ⟨e1, e2⟩ := oI h
      have h := hO3
      rw [e1, e2] at h
      clear e1 e2
      clear hO3
      have h := zm zy_362 h 3 (q := (14, dset (dset lf 1 (0, a)) 0 (4, 253), [(0, 1), (4, 253)], g)) rfl
      dsimp only at h
      obtain ⟨gz9, rz10, hk, h⟩ := zcallI zy_362 h rfl rfl zy_170 zk_170
      dsimp only at hk h
      have hO11 := h
      have h := hk
      clear hk
      have h := zm zy_170 h 4 (q := (6, darg 0 [(4, 253), (0, 1)], [(0, (-1))], cup g 253 2 1)) rfl
      dsimp only at h
      have h := zret zy_170 h rfl rfl
      obtain ⟨e1, e2⟩ := oI h
      have h := hO11
      rw [e1, e2] at h
      clear e1 e2
      clear hO11
      refine Or.inl (⟨Or.inr (⟨hc4, hc8⟩), ?_⟩)
      exact zret zy_362 h rfl rfl
    · have h := zm zy_236 h 2 (q := (18, darg 0 [(2, a), (2, 0), (2, 9999)], [(0, 1)], g)) rfl
      dsimp only at h
      have h := zret zy_236 h rfl rfl
      obtain ⟨e1, e2⟩ := oI h
      have h := hO3
      rw [e1, e2] at h
      clear e1 e2
      clear hO3
      have h := zm zy_362 h 7 (q := (cond (crel .ne (g 254 7) ((-1))) 36 29, dset (dset lf 1 (0, a)) 0 (4, 253), [], g)) rfl
      dsimp only at h
      rcases zif_ne h with ⟨hc12, h⟩ | ⟨hc12, h⟩
      · have h := zm zy_362 h 2 (q := (38, dset (dset lf 1 (0, a)) 0 (4, 253), [(0, a), (4, 253)], g)) rfl
        dsimp only at h
        obtain ⟨g_1, hk, h⟩ := zcallV zy_362 h rfl rfl zy_248 zk_248
        dsimp only at hk h
        refine Or.inr (Or.inl (⟨⟨hc4, hc8, hc12⟩, ?_⟩))
        refine ⟨g_1, hk, ?_⟩
        have h := zm zy_362 h 2 (q := (43, dset (dset (dset lf 1 (0, a)) 0 (4, 253)) 2 (0, 0), [], g_1)) rfl
        dsimp only at h
        exact ⟨_, rfl, rfl, h⟩
      · have h := zm zy_362 h 2 (q := (32, dset (dset lf 1 (0, a)) 0 (4, 253), [(0, 6), (4, 253)], g)) rfl
        dsimp only at h
        obtain ⟨gz14, rz15, hk, h⟩ := zcallI zy_362 h rfl rfl zy_170 zk_170
        dsimp only at hk h
        have hO16 := h
        have h := hk
        clear hk
        have h := zm zy_170 h 4 (q := (6, darg 0 [(4, 253), (0, 6)], [(0, (-1))], cup g 253 2 6)) rfl
        dsimp only at h
        have h := zret zy_170 h rfl rfl
        obtain ⟨e1, e2⟩ := oI h
        have h := hO16
        rw [e1, e2] at h
        clear e1 e2
        clear hO16
        refine Or.inr (Or.inr (⟨⟨hc4, hc8, hc12⟩, ?_⟩))
        exact zret zy_362 h rfl rfl
theorem m_liv43s {sv : Nat → Int32} {L n : Nat} {lf : dlf} {g : cg} {o : cg × Option cv} {k : Nat} (rk : k ≤ 4) (h : zr sv L (n + 1) 362 43 lf [] g o) (hl0 : lf 0 = (4, 253)) (hl2 : lf 2 = (0, (k : Int))) : ∃ lf', lf' 0 = (4, 253) ∧ lf' 2 = (0, 1 + (k : Int)) ∧ zr sv L n 362 43 lf' [] (cup g 269 k (g 268 k)) o := by
  rw [zov hl0, zov hl2] at h
  have h := zm1 zy_362 h 2 (q := (cond (crel .ge ((k : Int)) 5) 66 48, dset (dset lf 2 (0, (k : Int))) 0 (4, 253), [], g)) rfl
  dsimp only at h
  rcases zif_ge h with ⟨hc1, h⟩ | ⟨hc1, h⟩
  · exact absurd hc1 (by omega)
  · have h := zm zy_362 h 6 (q := (58, dset (dset lf 2 (0, (k : Int))) 0 (4, 253), [(0, (k : Int)), (4, 268), (0, (k : Int)), (4, 269)], g)) rfl
    dsimp only at h
    have h := zald zy_362 h rfl rfl (dvb_268 (i := (k : Int)) (by omega) (by omega))
    dsimp only at h
    try rw [show ((k : Int)).toNat = k from by omega] at h
    have h := zm zy_362 h 3 (q := (43, dset (dset (dset lf 2 (0, (k : Int))) 0 (4, 253)) 2 (0, w32 (((k : Int)) + 1)), [], cup g 269 (((k : Int)).toNat) (g 268 k))) rfl
    dsimp only at h
    try rw [w32_eq (z := ((k : Int)) + 1) (v := 1 + (k : Int)) (by omega) (by omega) (by omega)] at h
    try rw [show ((k : Int)).toNat = k from by omega] at h
    exact ⟨_, rfl, rfl, h⟩
theorem m_liv43e {sv : Nat → Int32} {L n : Nat} {lf : dlf} {g : cg} {o : cg × Option cv} (h : zr sv L (n + 1) 362 43 lf [] g o) (hl0 : lf 0 = (4, 253)) (hl2 : lf 2 = (0, 5)) : o = (cup (cup g 253 38 1) 253 2 0, some (0, g 253 34)) := by
  rw [zov hl0, zov hl2] at h
  have h := zm1 zy_362 h 8 (q := (76, dset (dset lf 2 (0, 5)) 0 (4, 253), [(0, g 253 34), (4, 253)], cup g 253 38 1)) rfl
  dsimp only at h
  obtain ⟨gz1, rz2, hk, h⟩ := zcallI zy_362 h rfl rfl zy_192 zk_192
  dsimp only at hk h
  have hO3 := h
  have h := hk
  clear hk
  have h := zm zy_192 h 4 (q := (6, darg 0 [(4, 253), (0, g 253 34)], [(0, g 253 34)], cup (cup g 253 38 1) 253 2 0)) rfl
  dsimp only at h
  have h := zret zy_192 h rfl rfl
  obtain ⟨e1, e2⟩ := oI h
  have h := hO3
  rw [e1, e2] at h
  clear e1 e2
  clear hO3
  exact zret zy_362 h rfl rfl
theorem m_lvs0 {sv : Nat → Int32} {L n : Nat} {lf : dlf} {g : cg} {o : cg × Option cv} {a : Int} (h : zr sv L n 248 0 lf [] g o) (hl0 : lf 0 = (4, 253)) (hl1 : lf 1 = (0, a)) : ∃ lf', lf' 0 = (4, 253) ∧ lf' 2 = (0, 0) ∧ zr sv L n 248 12 lf' [] (cup (cup g 253 33 a) 253 34 0) o := by
  rw [zov hl0, zov hl1] at h
  have h := zm zy_248 h 8 (q := (12, dset (dset (dset lf 1 (0, a)) 0 (4, 253)) 2 (0, 0), [], cup (cup g 253 33 a) 253 34 0)) rfl
  dsimp only at h
  exact ⟨_, rfl, rfl, h⟩
theorem m_lvs12s {sv : Nat → Int32} {L n : Nat} {lf : dlf} {g : cg} {o : cg × Option cv} {k : Nat} (rk : k ≤ 4) (h : zr sv L (n + 1) 248 12 lf [] g o) (hl0 : lf 0 = (4, 253)) (hl2 : lf 2 = (0, (k : Int))) : ∃ lf', lf' 0 = (4, 253) ∧ lf' 2 = (0, 1 + (k : Int)) ∧ zr sv L n 248 12 lf' [] (cup g 268 k 0) o := by
  rw [zov hl0, zov hl2] at h
  have h := zm1 zy_248 h 2 (q := (cond (crel .ge ((k : Int)) 5) 30 17, dset (dset lf 2 (0, (k : Int))) 0 (4, 253), [], g)) rfl
  dsimp only at h
  rcases zif_ge h with ⟨hc1, h⟩ | ⟨hc1, h⟩
  · exact absurd hc1 (by omega)
  · have h := zm zy_248 h 7 (q := (12, dset (dset (dset lf 2 (0, (k : Int))) 0 (4, 253)) 2 (0, w32 (((k : Int)) + 1)), [], cup g 268 (((k : Int)).toNat) 0)) rfl
    dsimp only at h
    try rw [w32_eq (z := ((k : Int)) + 1) (v := 1 + (k : Int)) (by omega) (by omega) (by omega)] at h
    try rw [show ((k : Int)).toNat = k from by omega] at h
    exact ⟨_, rfl, rfl, h⟩
theorem m_lvs12e {sv : Nat → Int32} {L n : Nat} {lf : dlf} {g : cg} {o : cg × Option cv} (h : zr sv L (n + 1) 248 12 lf [] g o) (hl0 : lf 0 = (4, 253)) (hl2 : lf 2 = (0, 5)) : ∃ lf', lf' 0 = (4, 253) ∧ lf' 2 = (0, g 254 2) ∧ lf' 3 = (0, 0) ∧ zr sv L n 248 39 lf' [] g o := by
  rw [zov hl0, zov hl2] at h
  have h := zm1 zy_248 h 9 (q := (39, dset (dset (dset (dset lf 2 (0, 5)) 0 (4, 253)) 2 (0, g 254 2)) 3 (0, 0), [], g)) rfl
  dsimp only at h
  exact ⟨_, rfl, rfl, rfl, h⟩
theorem m_lvs39s {sv : Nat → Int32} {L n : Nat} {lf : dlf} {g : cg} {o : cg × Option cv} {b k N K st : Nat} (rb : b ≤ 16) (rk : k ≤ 59) (rN : N ≤ 60) (rK : K ≤ 1924) (rst : st ≤ 300) (hN : g 254 7 = (N : Int)) (hK : g 254 (260 + 8 * k) = (K : Int)) (hl : g 268 4 = 0) (hs : g 253 34 = (st : Int)) (hlt : k < N) (h : zr sv L (n + 1) 248 39 lf [] g o) (hl0 : lf 0 = (4, 253)) (hl2 : lf 2 = (0, (b : Int))) (hl3 : lf 3 = (0, (k : Int))) : (((st : Int) ≠ 300 ∧ (K : Int) ≠ 22) ∧ (∃ g_1 r_1, zr sv L n 249 0 (darg 0 [(4, 253), (0, 260 + 8 * (k : Int))]) [] (cup g 253 34 (1 + (st : Int))) (g_1, some (0, r_1)) ∧ (((r_1 = 0) ∧ (∃ lf', lf' 0 = (4, 253) ∧ lf' 2 = (0, (b : Int)) ∧ lf' 3 = (0, (k : Int)) ∧ lf' 4 = (0, 260 + 8 * (k : Int)) ∧ zr sv L n 248 137 lf' [] (cup g_1 268 0 (w32 ((g 268 0) + 1))) o)) ∨ ((r_1 ≠ 0) ∧ (∃ lf', lf' 0 = (4, 253) ∧ lf' 2 = (0, (b : Int)) ∧ lf' 3 = (0, (k : Int)) ∧ lf' 4 = (0, 260 + 8 * (k : Int)) ∧ zr sv L n 248 137 lf' [] (cup g_1 268 0 (w32 ((g 268 0) + 0))) o))))) ∨ (((st : Int) ≠ 300 ∧ (K : Int) = 22) ∧ (∃ lf', lf' 0 = (4, 253) ∧ lf' 2 = (0, (b : Int)) ∧ zr sv L n 248 213 lf' [] (cup g 253 34 (1 + (st : Int))) o)) ∨ (((st : Int) = 300) ∧ (∃ lf', lf' 0 = (4, 253) ∧ lf' 2 = (0, (b : Int)) ∧ lf' 3 = (0, (k : Int)) ∧ zr sv L n 248 39 lf' [] (cup g 268 4 1) o)) := by
  rw [zov hl0, zov hl2, zov hl3] at h
  have h := zm1 zy_248 h 5 (q := (cond (crel .ge ((k : Int)) (g 254 7)) 213 50, dset (dset (dset lf 3 (0, (k : Int))) 2 (0, (b : Int))) 0 (4, 253), [], g)) rfl
  dsimp only at h
  try rw [hN] at h
  rcases zif_ge h with ⟨hc1, h⟩ | ⟨hc1, h⟩
  · exact absurd hc1 (by omega)
  · have h := zm zy_248 h 5 (q := (cond (crel .ne (g 268 4) 0) 213 59, dset (dset (dset lf 3 (0, (k : Int))) 2 (0, (b : Int))) 0 (4, 253), [], g)) rfl
    dsimp only at h
    try rw [hl] at h
    rcases zif_ne h with ⟨hc2, h⟩ | ⟨hc2, h⟩
    · exact absurd hc2 (by omega)
    · have h := zm zy_248 h 10 (q := (cond (crel .ne (g 253 34) 300) 89 79, dset (dset (dset (dset lf 3 (0, (k : Int))) 2 (0, (b : Int))) 0 (4, 253)) 4 (0, w32 (260 + (w32 (8 * ((k : Int)))))), [], g)) rfl
      dsimp only at h
      try rw [w32_eq (z := 8 * ((k : Int))) (v := 8 * (k : Int)) (by omega) (by omega) (by omega)] at h
      try rw [w32_eq (z := 260 + (8 * (k : Int))) (v := 260 + 8 * (k : Int)) (by omega) (by omega) (by omega)] at h
      try rw [hs] at h
      rcases zif_ne h with ⟨hc3, h⟩ | ⟨hc3, h⟩
      · have h := zm zy_248 h 9 (q := (105, dset (dset (dset (dset lf 3 (0, (k : Int))) 2 (0, (b : Int))) 0 (4, 253)) 4 (0, 260 + 8 * (k : Int)), [(0, 260 + 8 * (k : Int)), (4, 254)], cup g 253 34 (w32 ((g 253 34) + 1)))) rfl
        dsimp only at h
        try rw [hs] at h
        try rw [w32_eq (z := ((st : Int)) + 1) (v := 1 + (st : Int)) (by omega) (by omega) (by omega)] at h
        have h := zald zy_248 h rfl rfl (dvb_254 (i := 260 + 8 * (k : Int)) (by omega) (by omega))
        dsimp only at h
        try rw [show (260 + 8 * (k : Int)).toNat = 260 + 8 * k from by omega] at h
        try rw [cup_ne (g := g) (k := 253) (j := 34) (k' := 254) (j' := 260 + 8 * k) (by omega)] at h
        try rw [hK] at h
        have h := zm zy_248 h 2 (q := (cond (crel .ne ((K : Int)) 22) 114 111, dset (dset (dset (dset lf 3 (0, (k : Int))) 2 (0, (b : Int))) 0 (4, 253)) 4 (0, 260 + 8 * (k : Int)), [], cup g 253 34 (1 + (st : Int)))) rfl
        dsimp only at h
        rcases zif_ne h with ⟨hc4, h⟩ | ⟨hc4, h⟩
        · have h := zm zy_248 h 7 (q := (124, dset (dset (dset (dset lf 3 (0, (k : Int))) 2 (0, (b : Int))) 0 (4, 253)) 4 (0, 260 + 8 * (k : Int)), [(0, 260 + 8 * (k : Int)), (4, 253), (0, g 268 0), (0, 0), (4, 268)], cup g 253 34 (1 + (st : Int)))) rfl
          dsimp only at h
          obtain ⟨g_1, r_1, hk, h⟩ := zcallI zy_248 h rfl rfl zy_249 zk_249
          dsimp only at hk h
          refine Or.inl (⟨⟨hc3, hc4⟩, ?_⟩)
          refine ⟨g_1, r_1, hk, ?_⟩
          have h := zm zy_248 h 1 (q := (cond (crel .eq r_1 0) 134 130, dset (dset (dset (dset lf 3 (0, (k : Int))) 2 (0, (b : Int))) 0 (4, 253)) 4 (0, 260 + 8 * (k : Int)), [(0, g 268 0), (0, 0), (4, 268)], g_1)) rfl
          dsimp only at h
          rcases zif_eq h with ⟨hc5, h⟩ | ⟨hc5, h⟩
          · have h := zm zy_248 h 3 (q := (137, dset (dset (dset (dset lf 3 (0, (k : Int))) 2 (0, (b : Int))) 0 (4, 253)) 4 (0, 260 + 8 * (k : Int)), [], cup g_1 268 0 (w32 ((g 268 0) + 1)))) rfl
            dsimp only at h
            refine Or.inl (⟨hc5, ?_⟩)
            exact ⟨_, rfl, rfl, rfl, rfl, h⟩
          · have h := zm zy_248 h 4 (q := (137, dset (dset (dset (dset lf 3 (0, (k : Int))) 2 (0, (b : Int))) 0 (4, 253)) 4 (0, 260 + 8 * (k : Int)), [], cup g_1 268 0 (w32 ((g 268 0) + 0)))) rfl
            dsimp only at h
            refine Or.inr (⟨hc5, ?_⟩)
            exact ⟨_, rfl, rfl, rfl, rfl, h⟩
        · have h := zm zy_248 h 1 (q := (213, dset (dset (dset (dset lf 3 (0, (k : Int))) 2 (0, (b : Int))) 0 (4, 253)) 4 (0, 260 + 8 * (k : Int)), [], cup g 253 34 (1 + (st : Int)))) rfl
          dsimp only at h
          refine Or.inr (Or.inl (⟨⟨hc3, hc4⟩, ?_⟩))
          exact ⟨_, rfl, rfl, h⟩
      · have h := zm zy_248 h 6 (q := (39, dset (dset (dset (dset lf 3 (0, (k : Int))) 2 (0, (b : Int))) 0 (4, 253)) 4 (0, 260 + 8 * (k : Int)), [], cup g 268 4 1)) rfl
        dsimp only at h
        refine Or.inr (Or.inr (⟨hc3, ?_⟩))
        exact ⟨_, rfl, rfl, rfl, h⟩
theorem m_lvs137_p {sv : Nat → Int32} {L n : Nat} {lf : dlf} {g : cg} {o : cg × Option cv} {b k K : Nat} (rb : b ≤ 16) (rk : k ≤ 59) (rK : K ≤ 18) (hK : g 254 (260 + 8 * k) = (K : Int)) (h : zr sv L n 248 137 lf [] g o) (hl0 : lf 0 = (4, 253)) (hl2 : lf 2 = (0, (b : Int))) (hl3 : lf 3 = (0, (k : Int))) (hl4 : lf 4 = (0, 260 + 8 * (k : Int))) : ∃ g_1 r_1, zr sv L n 250 0 (darg 0 [(4, 253), (0, 1 + (k : Int))]) [] g (g_1, some (0, r_1)) ∧ (∃ lf', lf' 0 = (4, 253) ∧ lf' 2 = (0, (b : Int)) ∧ lf' 3 = (0, r_1) ∧ zr sv L n 248 39 lf' [] g_1 o) := by
  rw [zov hl0, zov hl2, zov hl3, zov hl4] at h
  have h := zm zy_248 h 3 (q := (143, dset (dset (dset (dset lf 4 (0, 260 + 8 * (k : Int))) 3 (0, (k : Int))) 2 (0, (b : Int))) 0 (4, 253), [(0, 260 + 8 * (k : Int)), (4, 254)], g)) rfl
  dsimp only at h
  have h := zald zy_248 h rfl rfl (dvb_254 (i := 260 + 8 * (k : Int)) (by omega) (by omega))
  dsimp only at h
  try rw [show (260 + 8 * (k : Int)).toNat = 260 + 8 * k from by omega] at h
  try rw [hK] at h
  have h := zm zy_248 h 2 (q := (cond (crel .ne ((K : Int)) 20) 166 149, dset (dset (dset (dset lf 4 (0, 260 + 8 * (k : Int))) 3 (0, (k : Int))) 2 (0, (b : Int))) 0 (4, 253), [], g)) rfl
  dsimp only at h
  rcases zif_ne h with ⟨hc1, h⟩ | ⟨hc1, h⟩
  · have h := zm zy_248 h 4 (q := (173, dset (dset (dset (dset lf 4 (0, 260 + 8 * (k : Int))) 3 (0, (k : Int))) 2 (0, (b : Int))) 0 (4, 253), [(0, 260 + 8 * (k : Int)), (4, 254), (4, 253)], g)) rfl
    dsimp only at h
    have h := zald zy_248 h rfl rfl (dvb_254 (i := 260 + 8 * (k : Int)) (by omega) (by omega))
    dsimp only at h
    try rw [show (260 + 8 * (k : Int)).toNat = 260 + 8 * k from by omega] at h
    try rw [hK] at h
    have h := zm zy_248 h 2 (q := (cond (crel .lt ((K : Int)) 1900) 203 180, dset (dset (dset (dset lf 4 (0, 260 + 8 * (k : Int))) 3 (0, (k : Int))) 2 (0, (b : Int))) 0 (4, 253), [(4, 253)], g)) rfl
    dsimp only at h
    rcases zif_lt h with ⟨hc2, h⟩ | ⟨hc2, h⟩
    · have h := zm zy_248 h 3 (q := (206, dset (dset (dset (dset lf 4 (0, 260 + 8 * (k : Int))) 3 (0, (k : Int))) 2 (0, (b : Int))) 0 (4, 253), [(0, w32 (((k : Int)) + 1)), (4, 253)], g)) rfl
      dsimp only at h
      try rw [w32_eq (z := ((k : Int)) + 1) (v := 1 + (k : Int)) (by omega) (by omega) (by omega)] at h
      obtain ⟨g_1, r_1, hk, h⟩ := zcallI zy_248 h rfl rfl zy_250 zk_250
      dsimp only at hk h
      refine ⟨g_1, r_1, hk, ?_⟩
      have h := zm zy_248 h 2 (q := (39, dset (dset (dset (dset (dset lf 4 (0, 260 + 8 * (k : Int))) 3 (0, (k : Int))) 2 (0, (b : Int))) 0 (4, 253)) 3 (0, r_1), [], g_1)) rfl
      dsimp only at h
      exact ⟨_, rfl, rfl, rfl, h⟩
    · exact absurd hc2 (by omega)
  · exact absurd hc1 (by omega)
theorem m_lvs137_l {sv : Nat → Int32} {L n : Nat} {lf : dlf} {g : cg} {o : cg × Option cv} {b k v : Nat} (rb : b ≤ 16) (rk : k ≤ 59) (rv : v ≤ 99) (hK : g 254 (260 + 8 * k) = 20) (hv : g 254 (261 + 8 * k) = (v : Int)) (h : zr sv L n 248 137 lf [] g o) (hl0 : lf 0 = (4, 253)) (hl2 : lf 2 = (0, (b : Int))) (hl3 : lf 3 = (0, (k : Int))) (hl4 : lf 4 = (0, 260 + 8 * (k : Int))) : ∃ g_1 r_1, zr sv L n 250 0 (darg 0 [(4, 253), (0, 1 + (k : Int))]) [] (cup g 267 k ((v : Int) - 1)) (g_1, some (0, r_1)) ∧ (∃ lf', lf' 0 = (4, 253) ∧ lf' 2 = (0, (b : Int)) ∧ lf' 3 = (0, r_1) ∧ zr sv L n 248 39 lf' [] g_1 o) := by
  rw [zov hl0, zov hl2, zov hl3, zov hl4] at h
  have h := zm zy_248 h 3 (q := (143, dset (dset (dset (dset lf 4 (0, 260 + 8 * (k : Int))) 3 (0, (k : Int))) 2 (0, (b : Int))) 0 (4, 253), [(0, 260 + 8 * (k : Int)), (4, 254)], g)) rfl
  dsimp only at h
  have h := zald zy_248 h rfl rfl (dvb_254 (i := 260 + 8 * (k : Int)) (by omega) (by omega))
  dsimp only at h
  try rw [show (260 + 8 * (k : Int)).toNat = 260 + 8 * k from by omega] at h
  try rw [hK] at h
  have h := zm zy_248 h 10 (q := (162, dset (dset (dset (dset lf 4 (0, 260 + 8 * (k : Int))) 3 (0, (k : Int))) 2 (0, (b : Int))) 0 (4, 253), [(0, w32 ((260 + 8 * (k : Int)) + 1)), (4, 254), (0, (k : Int)), (4, 267)], g)) rfl
  dsimp only at h
  try rw [w32_eq (z := (260 + 8 * (k : Int)) + 1) (v := 261 + 8 * (k : Int)) (by omega) (by omega) (by omega)] at h
  have h := zald zy_248 h rfl rfl (dvb_254 (i := 261 + 8 * (k : Int)) (by omega) (by omega))
  dsimp only at h
  try rw [show (261 + 8 * (k : Int)).toNat = 261 + 8 * k from by omega] at h
  try rw [hv] at h
  have h := zm zy_248 h 7 (q := (173, dset (dset (dset (dset lf 4 (0, 260 + 8 * (k : Int))) 3 (0, (k : Int))) 2 (0, (b : Int))) 0 (4, 253), [(0, 260 + 8 * (k : Int)), (4, 254), (4, 253)], cup g 267 (((k : Int)).toNat) (w32 (((v : Int)) - 1)))) rfl
  dsimp only at h
  try rw [show ((k : Int)).toNat = k from by omega] at h
  try rw [w32_eq (z := ((v : Int)) - 1) (v := (v : Int) - 1) (by omega) (by omega) (by omega)] at h
  have h := zald zy_248 h rfl rfl (dvb_254 (i := 260 + 8 * (k : Int)) (by omega) (by omega))
  dsimp only at h
  try rw [show (260 + 8 * (k : Int)).toNat = 260 + 8 * k from by omega] at h
  try rw [cup_ne (g := g) (k := 267) (j := k) (k' := 254) (j' := 260 + 8 * k) (by omega)] at h
  try rw [hK] at h
  have h := zm zy_248 h 5 (q := (206, dset (dset (dset (dset lf 4 (0, 260 + 8 * (k : Int))) 3 (0, (k : Int))) 2 (0, (b : Int))) 0 (4, 253), [(0, w32 (((k : Int)) + 1)), (4, 253)], cup g 267 k ((v : Int) - 1))) rfl
  dsimp only at h
  try rw [w32_eq (z := ((k : Int)) + 1) (v := 1 + (k : Int)) (by omega) (by omega) (by omega)] at h
  obtain ⟨g_1, r_1, hk, h⟩ := zcallI zy_248 h rfl rfl zy_250 zk_250
  dsimp only at hk h
  refine ⟨g_1, r_1, hk, ?_⟩
  have h := zm zy_248 h 2 (q := (39, dset (dset (dset (dset (dset lf 4 (0, 260 + 8 * (k : Int))) 3 (0, (k : Int))) 2 (0, (b : Int))) 0 (4, 253)) 3 (0, r_1), [], g_1)) rfl
  dsimp only at h
  exact ⟨_, rfl, rfl, rfl, h⟩
theorem m_lvs137_1923 {sv : Nat → Int32} {L n : Nat} {lf : dlf} {g : cg} {o : cg × Option cv} {b k : Nat} (rb : b ≤ 16) (rk : k ≤ 59) (hK : g 254 (260 + 8 * k) = 1923) (h : zr sv L n 248 137 lf [] g o) (hl0 : lf 0 = (4, 253)) (hl2 : lf 2 = (0, (b : Int))) (hl3 : lf 3 = (0, (k : Int))) (hl4 : lf 4 = (0, 260 + 8 * (k : Int))) : ∃ g_1 r_1, zr sv L n 251 0 (darg 0 [(4, 253), (0, 260 + 8 * (k : Int))]) [] g (g_1, some (0, r_1)) ∧ (((r_1 ≠ 0) ∧ (∃ g_2 r_2, zr sv L n 250 0 (darg 0 [(4, 253), (0, 1 + (k : Int))]) [] g_1 (g_2, some (0, r_2)) ∧ (∃ lf', lf' 0 = (4, 253) ∧ lf' 2 = (0, (b : Int)) ∧ lf' 3 = (0, r_2) ∧ zr sv L n 248 39 lf' [] g_2 o))) ∨ ((r_1 = 0) ∧ (∃ g_2 r_2, zr sv L n 250 0 (darg 0 [(4, 253), (0, w32 ((g_1 254 (265 + 8 * k)) + 1))]) [] g_1 (g_2, some (0, r_2)) ∧ (∃ lf', lf' 0 = (4, 253) ∧ lf' 2 = (0, (b : Int)) ∧ lf' 3 = (0, r_2) ∧ zr sv L n 248 39 lf' [] g_2 o)))) := by
  rw [zov hl0, zov hl2, zov hl3, zov hl4] at h
  have h := zm zy_248 h 3 (q := (143, dset (dset (dset (dset lf 4 (0, 260 + 8 * (k : Int))) 3 (0, (k : Int))) 2 (0, (b : Int))) 0 (4, 253), [(0, 260 + 8 * (k : Int)), (4, 254)], g)) rfl
  dsimp only at h
  have h := zald zy_248 h rfl rfl (dvb_254 (i := 260 + 8 * (k : Int)) (by omega) (by omega))
  dsimp only at h
  try rw [show (260 + 8 * (k : Int)).toNat = 260 + 8 * k from by omega] at h
  try rw [hK] at h
  have h := zm zy_248 h 6 (q := (173, dset (dset (dset (dset lf 4 (0, 260 + 8 * (k : Int))) 3 (0, (k : Int))) 2 (0, (b : Int))) 0 (4, 253), [(0, 260 + 8 * (k : Int)), (4, 254), (4, 253)], g)) rfl
  dsimp only at h
  have h := zald zy_248 h rfl rfl (dvb_254 (i := 260 + 8 * (k : Int)) (by omega) (by omega))
  dsimp only at h
  try rw [show (260 + 8 * (k : Int)).toNat = 260 + 8 * k from by omega] at h
  try rw [hK] at h
  have h := zm zy_248 h 4 (q := (183, dset (dset (dset (dset lf 4 (0, 260 + 8 * (k : Int))) 3 (0, (k : Int))) 2 (0, (b : Int))) 0 (4, 253), [(0, 260 + 8 * (k : Int)), (4, 253), (4, 253)], g)) rfl
  dsimp only at h
  obtain ⟨g_1, r_1, hk, h⟩ := zcallI zy_248 h rfl rfl zy_251 zk_251
  dsimp only at hk h
  refine ⟨g_1, r_1, hk, ?_⟩
  have h := zm zy_248 h 1 (q := (cond (crel .ne r_1 0) 203 189, dset (dset (dset (dset lf 4 (0, 260 + 8 * (k : Int))) 3 (0, (k : Int))) 2 (0, (b : Int))) 0 (4, 253), [(4, 253)], g_1)) rfl
  dsimp only at h
  rcases zif_ne h with ⟨hc1, h⟩ | ⟨hc1, h⟩
  · have h := zm zy_248 h 3 (q := (206, dset (dset (dset (dset lf 4 (0, 260 + 8 * (k : Int))) 3 (0, (k : Int))) 2 (0, (b : Int))) 0 (4, 253), [(0, w32 (((k : Int)) + 1)), (4, 253)], g_1)) rfl
    dsimp only at h
    try rw [w32_eq (z := ((k : Int)) + 1) (v := 1 + (k : Int)) (by omega) (by omega) (by omega)] at h
    obtain ⟨g_2, r_2, hk, h⟩ := zcallI zy_248 h rfl rfl zy_250 zk_250
    dsimp only at hk h
    refine Or.inl (⟨hc1, ?_⟩)
    refine ⟨g_2, r_2, hk, ?_⟩
    have h := zm zy_248 h 2 (q := (39, dset (dset (dset (dset (dset lf 4 (0, 260 + 8 * (k : Int))) 3 (0, (k : Int))) 2 (0, (b : Int))) 0 (4, 253)) 3 (0, r_2), [], g_2)) rfl
    dsimp only at h
    exact ⟨_, rfl, rfl, rfl, h⟩
  · have h := zm zy_248 h 5 (q := (197, dset (dset (dset (dset lf 4 (0, 260 + 8 * (k : Int))) 3 (0, (k : Int))) 2 (0, (b : Int))) 0 (4, 253), [(0, w32 ((260 + 8 * (k : Int)) + 5)), (4, 254), (4, 253)], g_1)) rfl
    dsimp only at h
    try rw [w32_eq (z := (260 + 8 * (k : Int)) + 5) (v := 265 + 8 * (k : Int)) (by omega) (by omega) (by omega)] at h
    have h := zald zy_248 h rfl rfl (dvb_254 (i := 265 + 8 * (k : Int)) (by omega) (by omega))
    dsimp only at h
    try rw [show (265 + 8 * (k : Int)).toNat = 265 + 8 * k from by omega] at h
    have h := zm zy_248 h 3 (q := (206, dset (dset (dset (dset lf 4 (0, 260 + 8 * (k : Int))) 3 (0, (k : Int))) 2 (0, (b : Int))) 0 (4, 253), [(0, w32 ((g_1 254 (265 + 8 * k)) + 1)), (4, 253)], g_1)) rfl
    dsimp only at h
    obtain ⟨g_2, r_2, hk, h⟩ := zcallI zy_248 h rfl rfl zy_250 zk_250
    dsimp only at hk h
    refine Or.inr (⟨hc1, ?_⟩)
    refine ⟨g_2, r_2, hk, ?_⟩
    have h := zm zy_248 h 2 (q := (39, dset (dset (dset (dset (dset lf 4 (0, 260 + 8 * (k : Int))) 3 (0, (k : Int))) 2 (0, (b : Int))) 0 (4, 253)) 3 (0, r_2), [], g_2)) rfl
    dsimp only at h
    exact ⟨_, rfl, rfl, rfl, h⟩
theorem m_lvs137_1909 {sv : Nat → Int32} {L n : Nat} {lf : dlf} {g : cg} {o : cg × Option cv} {b k : Nat} (rb : b ≤ 16) (rk : k ≤ 59) (hK : g 254 (260 + 8 * k) = 1909) (h : zr sv L n 248 137 lf [] g o) (hl0 : lf 0 = (4, 253)) (hl2 : lf 2 = (0, (b : Int))) (hl3 : lf 3 = (0, (k : Int))) (hl4 : lf 4 = (0, 260 + 8 * (k : Int))) : ∃ g_1 r_1, zr sv L n 251 0 (darg 0 [(4, 253), (0, 260 + 8 * (k : Int))]) [] g (g_1, some (0, r_1)) ∧ (((r_1 ≠ 0) ∧ (∃ g_2 r_2, zr sv L n 250 0 (darg 0 [(4, 253), (0, 1 + (k : Int))]) [] g_1 (g_2, some (0, r_2)) ∧ (∃ lf', lf' 0 = (4, 253) ∧ lf' 2 = (0, (b : Int)) ∧ lf' 3 = (0, r_2) ∧ zr sv L n 248 39 lf' [] g_2 o))) ∨ ((r_1 = 0) ∧ (∃ g_2 r_2, zr sv L n 250 0 (darg 0 [(4, 253), (0, w32 ((g_1 254 (265 + 8 * k)) + 1))]) [] g_1 (g_2, some (0, r_2)) ∧ (∃ lf', lf' 0 = (4, 253) ∧ lf' 2 = (0, (b : Int)) ∧ lf' 3 = (0, r_2) ∧ zr sv L n 248 39 lf' [] g_2 o)))) := by
  rw [zov hl0, zov hl2, zov hl3, zov hl4] at h
  have h := zm zy_248 h 3 (q := (143, dset (dset (dset (dset lf 4 (0, 260 + 8 * (k : Int))) 3 (0, (k : Int))) 2 (0, (b : Int))) 0 (4, 253), [(0, 260 + 8 * (k : Int)), (4, 254)], g)) rfl
  dsimp only at h
  have h := zald zy_248 h rfl rfl (dvb_254 (i := 260 + 8 * (k : Int)) (by omega) (by omega))
  dsimp only at h
  try rw [show (260 + 8 * (k : Int)).toNat = 260 + 8 * k from by omega] at h
  try rw [hK] at h
  have h := zm zy_248 h 6 (q := (173, dset (dset (dset (dset lf 4 (0, 260 + 8 * (k : Int))) 3 (0, (k : Int))) 2 (0, (b : Int))) 0 (4, 253), [(0, 260 + 8 * (k : Int)), (4, 254), (4, 253)], g)) rfl
  dsimp only at h
  have h := zald zy_248 h rfl rfl (dvb_254 (i := 260 + 8 * (k : Int)) (by omega) (by omega))
  dsimp only at h
  try rw [show (260 + 8 * (k : Int)).toNat = 260 + 8 * k from by omega] at h
  try rw [hK] at h
  have h := zm zy_248 h 4 (q := (183, dset (dset (dset (dset lf 4 (0, 260 + 8 * (k : Int))) 3 (0, (k : Int))) 2 (0, (b : Int))) 0 (4, 253), [(0, 260 + 8 * (k : Int)), (4, 253), (4, 253)], g)) rfl
  dsimp only at h
  obtain ⟨g_1, r_1, hk, h⟩ := zcallI zy_248 h rfl rfl zy_251 zk_251
  dsimp only at hk h
  refine ⟨g_1, r_1, hk, ?_⟩
  have h := zm zy_248 h 1 (q := (cond (crel .ne r_1 0) 203 189, dset (dset (dset (dset lf 4 (0, 260 + 8 * (k : Int))) 3 (0, (k : Int))) 2 (0, (b : Int))) 0 (4, 253), [(4, 253)], g_1)) rfl
  dsimp only at h
  rcases zif_ne h with ⟨hc1, h⟩ | ⟨hc1, h⟩
  · have h := zm zy_248 h 3 (q := (206, dset (dset (dset (dset lf 4 (0, 260 + 8 * (k : Int))) 3 (0, (k : Int))) 2 (0, (b : Int))) 0 (4, 253), [(0, w32 (((k : Int)) + 1)), (4, 253)], g_1)) rfl
    dsimp only at h
    try rw [w32_eq (z := ((k : Int)) + 1) (v := 1 + (k : Int)) (by omega) (by omega) (by omega)] at h
    obtain ⟨g_2, r_2, hk, h⟩ := zcallI zy_248 h rfl rfl zy_250 zk_250
    dsimp only at hk h
    refine Or.inl (⟨hc1, ?_⟩)
    refine ⟨g_2, r_2, hk, ?_⟩
    have h := zm zy_248 h 2 (q := (39, dset (dset (dset (dset (dset lf 4 (0, 260 + 8 * (k : Int))) 3 (0, (k : Int))) 2 (0, (b : Int))) 0 (4, 253)) 3 (0, r_2), [], g_2)) rfl
    dsimp only at h
    exact ⟨_, rfl, rfl, rfl, h⟩
  · have h := zm zy_248 h 5 (q := (197, dset (dset (dset (dset lf 4 (0, 260 + 8 * (k : Int))) 3 (0, (k : Int))) 2 (0, (b : Int))) 0 (4, 253), [(0, w32 ((260 + 8 * (k : Int)) + 5)), (4, 254), (4, 253)], g_1)) rfl
    dsimp only at h
    try rw [w32_eq (z := (260 + 8 * (k : Int)) + 5) (v := 265 + 8 * (k : Int)) (by omega) (by omega) (by omega)] at h
    have h := zald zy_248 h rfl rfl (dvb_254 (i := 265 + 8 * (k : Int)) (by omega) (by omega))
    dsimp only at h
    try rw [show (265 + 8 * (k : Int)).toNat = 265 + 8 * k from by omega] at h
    have h := zm zy_248 h 3 (q := (206, dset (dset (dset (dset lf 4 (0, 260 + 8 * (k : Int))) 3 (0, (k : Int))) 2 (0, (b : Int))) 0 (4, 253), [(0, w32 ((g_1 254 (265 + 8 * k)) + 1)), (4, 253)], g_1)) rfl
    dsimp only at h
    obtain ⟨g_2, r_2, hk, h⟩ := zcallI zy_248 h rfl rfl zy_250 zk_250
    dsimp only at hk h
    refine Or.inr (⟨hc1, ?_⟩)
    refine ⟨g_2, r_2, hk, ?_⟩
    have h := zm zy_248 h 2 (q := (39, dset (dset (dset (dset (dset lf 4 (0, 260 + 8 * (k : Int))) 3 (0, (k : Int))) 2 (0, (b : Int))) 0 (4, 253)) 3 (0, r_2), [], g_2)) rfl
    dsimp only at h
    exact ⟨_, rfl, rfl, rfl, h⟩
theorem m_lvs137_1924 {sv : Nat → Int32} {L n : Nat} {lf : dlf} {g : cg} {o : cg × Option cv} {b k : Nat} (rb : b ≤ 16) (rk : k ≤ 59) (hK : g 254 (260 + 8 * k) = 1924) (h : zr sv L n 248 137 lf [] g o) (hl0 : lf 0 = (4, 253)) (hl2 : lf 2 = (0, (b : Int))) (hl3 : lf 3 = (0, (k : Int))) (hl4 : lf 4 = (0, 260 + 8 * (k : Int))) : ∃ g_1 r_1, zr sv L n 251 0 (darg 0 [(4, 253), (0, 260 + 8 * (k : Int))]) [] g (g_1, some (0, r_1)) ∧ (((r_1 ≠ 0) ∧ (∃ g_2 r_2, zr sv L n 250 0 (darg 0 [(4, 253), (0, 1 + (k : Int))]) [] g_1 (g_2, some (0, r_2)) ∧ (∃ lf', lf' 0 = (4, 253) ∧ lf' 2 = (0, (b : Int)) ∧ lf' 3 = (0, r_2) ∧ zr sv L n 248 39 lf' [] g_2 o))) ∨ ((r_1 = 0) ∧ (∃ g_2 r_2, zr sv L n 250 0 (darg 0 [(4, 253), (0, w32 ((g_1 254 (265 + 8 * k)) + 1))]) [] g_1 (g_2, some (0, r_2)) ∧ (∃ lf', lf' 0 = (4, 253) ∧ lf' 2 = (0, (b : Int)) ∧ lf' 3 = (0, r_2) ∧ zr sv L n 248 39 lf' [] g_2 o)))) := by
  rw [zov hl0, zov hl2, zov hl3, zov hl4] at h
  have h := zm zy_248 h 3 (q := (143, dset (dset (dset (dset lf 4 (0, 260 + 8 * (k : Int))) 3 (0, (k : Int))) 2 (0, (b : Int))) 0 (4, 253), [(0, 260 + 8 * (k : Int)), (4, 254)], g)) rfl
  dsimp only at h
  have h := zald zy_248 h rfl rfl (dvb_254 (i := 260 + 8 * (k : Int)) (by omega) (by omega))
  dsimp only at h
  try rw [show (260 + 8 * (k : Int)).toNat = 260 + 8 * k from by omega] at h
  try rw [hK] at h
  have h := zm zy_248 h 6 (q := (173, dset (dset (dset (dset lf 4 (0, 260 + 8 * (k : Int))) 3 (0, (k : Int))) 2 (0, (b : Int))) 0 (4, 253), [(0, 260 + 8 * (k : Int)), (4, 254), (4, 253)], g)) rfl
  dsimp only at h
  have h := zald zy_248 h rfl rfl (dvb_254 (i := 260 + 8 * (k : Int)) (by omega) (by omega))
  dsimp only at h
  try rw [show (260 + 8 * (k : Int)).toNat = 260 + 8 * k from by omega] at h
  try rw [hK] at h
  have h := zm zy_248 h 4 (q := (183, dset (dset (dset (dset lf 4 (0, 260 + 8 * (k : Int))) 3 (0, (k : Int))) 2 (0, (b : Int))) 0 (4, 253), [(0, 260 + 8 * (k : Int)), (4, 253), (4, 253)], g)) rfl
  dsimp only at h
  obtain ⟨g_1, r_1, hk, h⟩ := zcallI zy_248 h rfl rfl zy_251 zk_251
  dsimp only at hk h
  refine ⟨g_1, r_1, hk, ?_⟩
  have h := zm zy_248 h 1 (q := (cond (crel .ne r_1 0) 203 189, dset (dset (dset (dset lf 4 (0, 260 + 8 * (k : Int))) 3 (0, (k : Int))) 2 (0, (b : Int))) 0 (4, 253), [(4, 253)], g_1)) rfl
  dsimp only at h
  rcases zif_ne h with ⟨hc1, h⟩ | ⟨hc1, h⟩
  · have h := zm zy_248 h 3 (q := (206, dset (dset (dset (dset lf 4 (0, 260 + 8 * (k : Int))) 3 (0, (k : Int))) 2 (0, (b : Int))) 0 (4, 253), [(0, w32 (((k : Int)) + 1)), (4, 253)], g_1)) rfl
    dsimp only at h
    try rw [w32_eq (z := ((k : Int)) + 1) (v := 1 + (k : Int)) (by omega) (by omega) (by omega)] at h
    obtain ⟨g_2, r_2, hk, h⟩ := zcallI zy_248 h rfl rfl zy_250 zk_250
    dsimp only at hk h
    refine Or.inl (⟨hc1, ?_⟩)
    refine ⟨g_2, r_2, hk, ?_⟩
    have h := zm zy_248 h 2 (q := (39, dset (dset (dset (dset (dset lf 4 (0, 260 + 8 * (k : Int))) 3 (0, (k : Int))) 2 (0, (b : Int))) 0 (4, 253)) 3 (0, r_2), [], g_2)) rfl
    dsimp only at h
    exact ⟨_, rfl, rfl, rfl, h⟩
  · have h := zm zy_248 h 5 (q := (197, dset (dset (dset (dset lf 4 (0, 260 + 8 * (k : Int))) 3 (0, (k : Int))) 2 (0, (b : Int))) 0 (4, 253), [(0, w32 ((260 + 8 * (k : Int)) + 5)), (4, 254), (4, 253)], g_1)) rfl
    dsimp only at h
    try rw [w32_eq (z := (260 + 8 * (k : Int)) + 5) (v := 265 + 8 * (k : Int)) (by omega) (by omega) (by omega)] at h
    have h := zald zy_248 h rfl rfl (dvb_254 (i := 265 + 8 * (k : Int)) (by omega) (by omega))
    dsimp only at h
    try rw [show (265 + 8 * (k : Int)).toNat = 265 + 8 * k from by omega] at h
    have h := zm zy_248 h 3 (q := (206, dset (dset (dset (dset lf 4 (0, 260 + 8 * (k : Int))) 3 (0, (k : Int))) 2 (0, (b : Int))) 0 (4, 253), [(0, w32 ((g_1 254 (265 + 8 * k)) + 1)), (4, 253)], g_1)) rfl
    dsimp only at h
    obtain ⟨g_2, r_2, hk, h⟩ := zcallI zy_248 h rfl rfl zy_250 zk_250
    dsimp only at hk h
    refine Or.inr (⟨hc1, ?_⟩)
    refine ⟨g_2, r_2, hk, ?_⟩
    have h := zm zy_248 h 2 (q := (39, dset (dset (dset (dset (dset lf 4 (0, 260 + 8 * (k : Int))) 3 (0, (k : Int))) 2 (0, (b : Int))) 0 (4, 253)) 3 (0, r_2), [], g_2)) rfl
    dsimp only at h
    exact ⟨_, rfl, rfl, rfl, h⟩
theorem m_lvs39e {sv : Nat → Int32} {L n : Nat} {lf : dlf} {g : cg} {o : cg × Option cv} {b k N : Nat} (rb : b ≤ 16) (rk : k ≤ 60) (rN : N ≤ 60) (hN : g 254 7 = (N : Int)) (hge : N ≤ k) (h : zr sv L (n + 1) 248 39 lf [] g o) (hl0 : lf 0 = (4, 253)) (hl2 : lf 2 = (0, (b : Int))) (hl3 : lf 3 = (0, (k : Int))) : ∃ lf', lf' 0 = (4, 253) ∧ lf' 2 = (0, (b : Int)) ∧ zr sv L n 248 213 lf' [] g o := by
  rw [zov hl0, zov hl2, zov hl3] at h
  have h := zm1 zy_248 h 5 (q := (cond (crel .ge ((k : Int)) (g 254 7)) 213 50, dset (dset (dset lf 3 (0, (k : Int))) 2 (0, (b : Int))) 0 (4, 253), [], g)) rfl
  dsimp only at h
  try rw [hN] at h
  rcases zif_ge h with ⟨hc1, h⟩ | ⟨hc1, h⟩
  · exact ⟨_, rfl, rfl, h⟩
  · exact absurd hc1 (by omega)
theorem m_lvs39l {sv : Nat → Int32} {L n : Nat} {lf : dlf} {g : cg} {o : cg × Option cv} {b k N : Nat} (rb : b ≤ 16) (rk : k ≤ 59) (rN : N ≤ 60) (hN : g 254 7 = (N : Int)) (hl : g 268 4 = 1) (hlt : k < N) (h : zr sv L (n + 1) 248 39 lf [] g o) (hl0 : lf 0 = (4, 253)) (hl2 : lf 2 = (0, (b : Int))) (hl3 : lf 3 = (0, (k : Int))) : ∃ lf', lf' 0 = (4, 253) ∧ lf' 2 = (0, (b : Int)) ∧ zr sv L n 248 213 lf' [] g o := by
  rw [zov hl0, zov hl2, zov hl3] at h
  have h := zm1 zy_248 h 5 (q := (cond (crel .ge ((k : Int)) (g 254 7)) 213 50, dset (dset (dset lf 3 (0, (k : Int))) 2 (0, (b : Int))) 0 (4, 253), [], g)) rfl
  dsimp only at h
  try rw [hN] at h
  rcases zif_ge h with ⟨hc1, h⟩ | ⟨hc1, h⟩
  · exact absurd hc1 (by omega)
  · have h := zm zy_248 h 5 (q := (cond (crel .ne (g 268 4) 0) 213 59, dset (dset (dset lf 3 (0, (k : Int))) 2 (0, (b : Int))) 0 (4, 253), [], g)) rfl
    dsimp only at h
    try rw [hl] at h
    rcases zif_ne h with ⟨hc2, h⟩ | ⟨hc2, h⟩
    · exact ⟨_, rfl, rfl, h⟩
    · exact absurd hc2 (by omega)
theorem m_lvs213 {sv : Nat → Int32} {L n : Nat} {lf : dlf} {g : cg} {o : cg × Option cv} {b : Nat} (rb : b ≤ 16) (h : zr sv L n 248 213 lf [] g o) (hl0 : lf 0 = (4, 253)) (hl2 : lf 2 = (0, (b : Int))) : ∃ lf', lf' 0 = (4, 253) ∧ lf' 4 = (0, (b : Int)) ∧ zr sv L n 248 216 lf' [] g o := by
  rw [zov hl0, zov hl2] at h
  have h := zm zy_248 h 2 (q := (216, dset (dset (dset lf 2 (0, (b : Int))) 0 (4, 253)) 4 (0, (b : Int)), [], g)) rfl
  dsimp only at h
  exact ⟨_, rfl, rfl, h⟩
theorem m_lvs216s {sv : Nat → Int32} {L n : Nat} {lf : dlf} {g : cg} {o : cg × Option cv} {k N : Nat} {s : Int} (rk : k ≤ 15) (rN : N ≤ 16) (hN : g 254 2 = (N : Int)) (hsk : g 254 (104 + 8 * k) = s) (hlt : k < N) (h : zr sv L (n + 1) 248 216 lf [] g o) (hl0 : lf 0 = (4, 253)) (hl4 : lf 4 = (0, (k : Int))) : ((s ≠ 1) ∧ (∃ lf', lf' 0 = (4, 253) ∧ lf' 4 = (0, 1 + (k : Int)) ∧ zr sv L n 248 216 lf' [] (cup g 268 2 (w32 ((g 268 2) + 0))) o)) ∨ ((s = 1) ∧ (∃ lf', lf' 0 = (4, 253) ∧ lf' 4 = (0, 1 + (k : Int)) ∧ zr sv L n 248 216 lf' [] (cup g 268 2 (w32 ((g 268 2) + 1))) o)) := by
  rw [zov hl0, zov hl4] at h
  have h := zm1 zy_248 h 5 (q := (cond (crel .ge ((k : Int)) (g 254 2)) 263 227, dset (dset lf 4 (0, (k : Int))) 0 (4, 253), [], g)) rfl
  dsimp only at h
  try rw [hN] at h
  rcases zif_ge h with ⟨hc1, h⟩ | ⟨hc1, h⟩
  · exact absurd hc1 (by omega)
  · have h := zm zy_248 h 8 (q := (240, dset (dset lf 4 (0, (k : Int))) 0 (4, 253), [(0, (k : Int)), (4, 254), (0, g 268 2), (0, 2), (4, 268)], g)) rfl
    dsimp only at h
    obtain ⟨gz2, rz3, hk, h⟩ := zcallI zy_248 h rfl rfl zy_199 zk_199
    dsimp only at hk h
    have hO4 := h
    have h := hk
    clear hk
    have h := zm zy_199 h 5 (q := (7, darg 0 [(0, (k : Int))], [(0, w32 (99 + (w32 (8 * ((k : Int))))))], g)) rfl
    dsimp only at h
    try rw [w32_eq (z := 8 * ((k : Int))) (v := 8 * (k : Int)) (by omega) (by omega) (by omega)] at h
    try rw [w32_eq (z := 99 + (8 * (k : Int))) (v := 99 + 8 * (k : Int)) (by omega) (by omega) (by omega)] at h
    have h := zret zy_199 h rfl rfl
    obtain ⟨e1, e2⟩ := oI h
    have h := hO4
    rw [e1, e2] at h
    clear e1 e2
    clear hO4
    have h := zm zy_248 h 2 (q := (245, dset (dset lf 4 (0, (k : Int))) 0 (4, 253), [(0, w32 ((99 + 8 * (k : Int)) + 5)), (4, 254), (0, g 268 2), (0, 2), (4, 268)], g)) rfl
    dsimp only at h
    try rw [w32_eq (z := (99 + 8 * (k : Int)) + 5) (v := 104 + 8 * (k : Int)) (by omega) (by omega) (by omega)] at h
    have h := zald zy_248 h rfl rfl (dvb_254 (i := 104 + 8 * (k : Int)) (by omega) (by omega))
    dsimp only at h
    try rw [show (104 + 8 * (k : Int)).toNat = 104 + 8 * k from by omega] at h
    try rw [hsk] at h
    have h := zm zy_248 h 2 (q := (cond (crel .ne s 1) 254 250, dset (dset lf 4 (0, (k : Int))) 0 (4, 253), [(0, g 268 2), (0, 2), (4, 268)], g)) rfl
    dsimp only at h
    rcases zif_ne h with ⟨hc5, h⟩ | ⟨hc5, h⟩
    · have h := zm zy_248 h 5 (q := (216, dset (dset (dset lf 4 (0, (k : Int))) 0 (4, 253)) 4 (0, w32 (((k : Int)) + 1)), [], cup g 268 2 (w32 ((g 268 2) + 0)))) rfl
      dsimp only at h
      try rw [w32_eq (z := ((k : Int)) + 1) (v := 1 + (k : Int)) (by omega) (by omega) (by omega)] at h
      refine Or.inl (⟨hc5, ?_⟩)
      exact ⟨_, rfl, rfl, h⟩
    · have h := zm zy_248 h 6 (q := (216, dset (dset (dset lf 4 (0, (k : Int))) 0 (4, 253)) 4 (0, w32 (((k : Int)) + 1)), [], cup g 268 2 (w32 ((g 268 2) + 1)))) rfl
      dsimp only at h
      try rw [w32_eq (z := ((k : Int)) + 1) (v := 1 + (k : Int)) (by omega) (by omega) (by omega)] at h
      refine Or.inr (⟨hc5, ?_⟩)
      exact ⟨_, rfl, rfl, h⟩
theorem m_lvs216e {sv : Nat → Int32} {L n : Nat} {lf : dlf} {g : cg} {o : cg × Option cv} {k N : Nat} (rk : k ≤ 16) (rN : N ≤ 16) (hN : g 254 2 = (N : Int)) (hge : N ≤ k) (h : zr sv L (n + 1) 248 216 lf [] g o) (hl0 : lf 0 = (4, 253)) (hl4 : lf 4 = (0, (k : Int))) : o = (g, none) := by
  rw [zov hl0, zov hl4] at h
  have h := zm1 zy_248 h 5 (q := (cond (crel .ge ((k : Int)) (g 254 2)) 263 227, dset (dset lf 4 (0, (k : Int))) 0 (4, 253), [], g)) rfl
  dsimp only at h
  try rw [hN] at h
  rcases zif_ge h with ⟨hc1, h⟩ | ⟨hc1, h⟩
  · exact zret zy_248 h rfl rfl
  · exact absurd hc1 (by omega)
theorem m_bhe0 {sv : Nat → Int32} {L n : Nat} {lf : dlf} {g : cg} {o : cg × Option cv} {k : Nat} (rk : k ≤ 60) (h : zr sv L n 250 0 lf [] g o) (hl0 : lf 0 = (4, 253)) (hl1 : lf 1 = (0, (k : Int))) : ∃ lf', lf' 0 = (4, 253) ∧ lf' 2 = (0, (k : Int)) ∧ zr sv L n 250 2 lf' [] g o := by
  rw [zov hl0, zov hl1] at h
  have h := zm zy_250 h 2 (q := (2, dset (dset (dset lf 1 (0, (k : Int))) 0 (4, 253)) 2 (0, (k : Int)), [], g)) rfl
  dsimp only at h
  exact ⟨_, rfl, rfl, h⟩
theorem m_bhe_n {sv : Nat → Int32} {L n : Nat} {lf : dlf} {g : cg} {o : cg × Option cv} {k N K : Nat} (rk : k ≤ 59) (rN : N ≤ 60) (rK : K ≤ 1924) (hN : g 254 7 = (N : Int)) (hK : g 254 (260 + 8 * k) = (K : Int)) (hne : K ≠ 21) (hlt : k < N) (h : zr sv L (n + 1) 250 2 lf [] g o) (hl0 : lf 0 = (4, 253)) (hl2 : lf 2 = (0, (k : Int))) : o = (g, some (0, (k : Int))) := by
  rw [zov hl0, zov hl2] at h
  have h := zm1 zy_250 h 5 (q := (cond (crel .ge ((k : Int)) (g 254 7)) 118 13, dset (dset lf 2 (0, (k : Int))) 0 (4, 253), [], g)) rfl
  dsimp only at h
  try rw [hN] at h
  rcases zif_ge h with ⟨hc1, h⟩ | ⟨hc1, h⟩
  · exact absurd hc1 (by omega)
  · have h := zm zy_250 h 7 (q := (25, dset (dset lf 2 (0, (k : Int))) 0 (4, 253), [(0, w32 (260 + (w32 (8 * ((k : Int)))))), (4, 254)], g)) rfl
    dsimp only at h
    try rw [w32_eq (z := 8 * ((k : Int))) (v := 8 * (k : Int)) (by omega) (by omega) (by omega)] at h
    try rw [w32_eq (z := 260 + (8 * (k : Int))) (v := 260 + 8 * (k : Int)) (by omega) (by omega) (by omega)] at h
    have h := zald zy_250 h rfl rfl (dvb_254 (i := 260 + 8 * (k : Int)) (by omega) (by omega))
    dsimp only at h
    try rw [show (260 + 8 * (k : Int)).toNat = 260 + 8 * k from by omega] at h
    try rw [hK] at h
    have h := zm zy_250 h 2 (q := (cond (crel .ne ((K : Int)) 21) 118 31, dset (dset lf 2 (0, (k : Int))) 0 (4, 253), [], g)) rfl
    dsimp only at h
    rcases zif_ne h with ⟨hc2, h⟩ | ⟨hc2, h⟩
    · have h := zm zy_250 h 1 (q := (119, dset (dset lf 2 (0, (k : Int))) 0 (4, 253), [(0, (k : Int))], g)) rfl
      dsimp only at h
      exact zret zy_250 h rfl rfl
    · exact absurd hc2 (by omega)
theorem m_bhe_e {sv : Nat → Int32} {L n : Nat} {lf : dlf} {g : cg} {o : cg × Option cv} {k N : Nat} (rk : k ≤ 60) (rN : N ≤ 60) (hN : g 254 7 = (N : Int)) (hge : N ≤ k) (h : zr sv L (n + 1) 250 2 lf [] g o) (hl0 : lf 0 = (4, 253)) (hl2 : lf 2 = (0, (k : Int))) : o = (g, some (0, (k : Int))) := by
  rw [zov hl0, zov hl2] at h
  have h := zm1 zy_250 h 5 (q := (cond (crel .ge ((k : Int)) (g 254 7)) 118 13, dset (dset lf 2 (0, (k : Int))) 0 (4, 253), [], g)) rfl
  dsimp only at h
  try rw [hN] at h
  rcases zif_ge h with ⟨hc1, h⟩ | ⟨hc1, h⟩
  · have h := zm zy_250 h 1 (q := (119, dset (dset lf 2 (0, (k : Int))) 0 (4, 253), [(0, (k : Int))], g)) rfl
    dsimp only at h
    exact zret zy_250 h rfl rfl
  · exact absurd hc1 (by omega)
theorem m_bhe_l {sv : Nat → Int32} {L n : Nat} {lf : dlf} {g : cg} {o : cg × Option cv} {k N q ro : Nat} (rk : k ≤ 59) (rN : N ≤ 60) (rq : q ≤ 59) (rro : ro ≤ 99) (hN : g 254 7 = (N : Int)) (hK : g 254 (260 + 8 * k) = 21) (hq : g 254 (265 + 8 * k) = (q : Int)) (hO : g 254 (260 + 8 * q) = 20) (hr : g 267 q = (ro : Int)) (hlt : k < N) (h : zr sv L (n + 1) 250 2 lf [] g o) (hl0 : lf 0 = (4, 253)) (hl2 : lf 2 = (0, (k : Int))) : (((ro : Int) ≤ 0) ∧ (∃ lf', lf' 0 = (4, 253) ∧ lf' 2 = (0, 1 + (k : Int)) ∧ zr sv L n 250 2 lf' [] (cup g 267 q ((ro : Int))) o)) ∨ ((0 < (ro : Int)) ∧ (∃ lf', lf' 0 = (4, 253) ∧ lf' 2 = (0, 1 + (q : Int)) ∧ zr sv L n 250 2 lf' [] (cup g 267 q ((ro : Int) - 1)) o)) := by
  rw [zov hl0, zov hl2] at h
  have h := zm1 zy_250 h 5 (q := (cond (crel .ge ((k : Int)) (g 254 7)) 118 13, dset (dset lf 2 (0, (k : Int))) 0 (4, 253), [], g)) rfl
  dsimp only at h
  try rw [hN] at h
  rcases zif_ge h with ⟨hc1, h⟩ | ⟨hc1, h⟩
  · exact absurd hc1 (by omega)
  · have h := zm zy_250 h 7 (q := (25, dset (dset lf 2 (0, (k : Int))) 0 (4, 253), [(0, w32 (260 + (w32 (8 * ((k : Int)))))), (4, 254)], g)) rfl
    dsimp only at h
    try rw [w32_eq (z := 8 * ((k : Int))) (v := 8 * (k : Int)) (by omega) (by omega) (by omega)] at h
    try rw [w32_eq (z := 260 + (8 * (k : Int))) (v := 260 + 8 * (k : Int)) (by omega) (by omega) (by omega)] at h
    have h := zald zy_250 h rfl rfl (dvb_254 (i := 260 + 8 * (k : Int)) (by omega) (by omega))
    dsimp only at h
    try rw [show (260 + 8 * (k : Int)).toNat = 260 + 8 * k from by omega] at h
    try rw [hK] at h
    have h := zm zy_250 h 11 (q := (45, dset (dset lf 2 (0, (k : Int))) 0 (4, 253), [(0, w32 ((w32 (260 + (w32 (8 * ((k : Int)))))) + 5)), (4, 254)], g)) rfl
    dsimp only at h
    try rw [w32_eq (z := 8 * ((k : Int))) (v := 8 * (k : Int)) (by omega) (by omega) (by omega)] at h
    try rw [w32_eq (z := 260 + (8 * (k : Int))) (v := 260 + 8 * (k : Int)) (by omega) (by omega) (by omega)] at h
    try rw [w32_eq (z := (260 + 8 * (k : Int)) + 5) (v := 265 + 8 * (k : Int)) (by omega) (by omega) (by omega)] at h
    have h := zald zy_250 h rfl rfl (dvb_254 (i := 265 + 8 * (k : Int)) (by omega) (by omega))
    dsimp only at h
    try rw [show (265 + 8 * (k : Int)).toNat = 265 + 8 * k from by omega] at h
    try rw [hq] at h
    have h := zm zy_250 h 8 (q := (59, dset (dset (dset lf 2 (0, (k : Int))) 0 (4, 253)) 3 (0, (q : Int)), [(0, w32 (260 + (w32 (8 * ((q : Int)))))), (4, 254)], g)) rfl
    dsimp only at h
    try rw [w32_eq (z := 8 * ((q : Int))) (v := 8 * (q : Int)) (by omega) (by omega) (by omega)] at h
    try rw [w32_eq (z := 260 + (8 * (q : Int))) (v := 260 + 8 * (q : Int)) (by omega) (by omega) (by omega)] at h
    have h := zald zy_250 h rfl rfl (dvb_254 (i := 260 + 8 * (q : Int)) (by omega) (by omega))
    dsimp only at h
    try rw [show (260 + 8 * (q : Int)).toNat = 260 + 8 * q from by omega] at h
    try rw [hO] at h
    have h := zm zy_250 h 5 (q := (70, dset (dset (dset lf 2 (0, (k : Int))) 0 (4, 253)) 3 (0, (q : Int)), [(0, (q : Int)), (4, 267)], g)) rfl
    dsimp only at h
    have h := zald zy_250 h rfl rfl (dvb_267 (i := (q : Int)) (by omega) (by omega))
    dsimp only at h
    try rw [show ((q : Int)).toNat = q from by omega] at h
    try rw [hr] at h
    have h := zm zy_250 h 1 (q := (cond (crel .le ((ro : Int)) 0) 78 74, dset (dset (dset lf 2 (0, (k : Int))) 0 (4, 253)) 3 (0, (q : Int)), [], g)) rfl
    dsimp only at h
    rcases zif_le h with ⟨hc2, h⟩ | ⟨hc2, h⟩
    · have h := zm zy_250 h 6 (q := (87, dset (dset (dset (dset lf 2 (0, (k : Int))) 0 (4, 253)) 3 (0, (q : Int))) 4 (0, 0), [(0, (q : Int)), (4, 267), (0, (q : Int)), (4, 267)], g)) rfl
      dsimp only at h
      have h := zald zy_250 h rfl rfl (dvb_267 (i := (q : Int)) (by omega) (by omega))
      dsimp only at h
      try rw [show ((q : Int)).toNat = q from by omega] at h
      try rw [hr] at h
      have h := zm zy_250 h 12 (q := (2, dset (dset (dset (dset (dset lf 2 (0, (k : Int))) 0 (4, 253)) 3 (0, (q : Int))) 4 (0, 0)) 2 (0, w32 (((k : Int)) + 1)), [], cup g 267 (((q : Int)).toNat) (w32 (((ro : Int)) - 0)))) rfl
      dsimp only at h
      try rw [w32_eq (z := ((k : Int)) + 1) (v := 1 + (k : Int)) (by omega) (by omega) (by omega)] at h
      try rw [show ((q : Int)).toNat = q from by omega] at h
      try rw [w32_eq (z := ((ro : Int)) - 0) (v := (ro : Int)) (by omega) (by omega) (by omega)] at h
      refine Or.inl (⟨hc2, ?_⟩)
      exact ⟨_, rfl, rfl, h⟩
    · have h := zm zy_250 h 7 (q := (87, dset (dset (dset (dset lf 2 (0, (k : Int))) 0 (4, 253)) 3 (0, (q : Int))) 4 (0, 1), [(0, (q : Int)), (4, 267), (0, (q : Int)), (4, 267)], g)) rfl
      dsimp only at h
      have h := zald zy_250 h rfl rfl (dvb_267 (i := (q : Int)) (by omega) (by omega))
      dsimp only at h
      try rw [show ((q : Int)).toNat = q from by omega] at h
      try rw [hr] at h
      have h := zm zy_250 h 14 (q := (2, dset (dset (dset (dset (dset lf 2 (0, (k : Int))) 0 (4, 253)) 3 (0, (q : Int))) 4 (0, 1)) 2 (0, w32 (((q : Int)) + 1)), [], cup g 267 (((q : Int)).toNat) (w32 (((ro : Int)) - 1)))) rfl
      dsimp only at h
      try rw [w32_eq (z := ((q : Int)) + 1) (v := 1 + (q : Int)) (by omega) (by omega) (by omega)] at h
      try rw [show ((q : Int)).toNat = q from by omega] at h
      try rw [w32_eq (z := ((ro : Int)) - 1) (v := (ro : Int) - 1) (by omega) (by omega) (by omega)] at h
      refine Or.inr (⟨hc2, ?_⟩)
      exact ⟨_, rfl, rfl, h⟩
theorem m_bhe_w {sv : Nat → Int32} {L n : Nat} {lf : dlf} {g : cg} {o : cg × Option cv} {k N q O : Nat} {ro : Int} (rk : k ≤ 59) (rN : N ≤ 60) (rq : q ≤ 59) (rO : O ≤ 1924) (hN : g 254 7 = (N : Int)) (hK : g 254 (260 + 8 * k) = 21) (hq : g 254 (265 + 8 * k) = (q : Int)) (hO : g 254 (260 + 8 * q) = (O : Int)) (hr : g 267 q = ro) (hlt : k < N) (hne : O ≠ 20) (h : zr sv L (n + 1) 250 2 lf [] g o) (hl0 : lf 0 = (4, 253)) (hl2 : lf 2 = (0, (k : Int))) : ∃ lf', lf' 0 = (4, 253) ∧ lf' 2 = (0, 1 + (k : Int)) ∧ zr sv L n 250 2 lf' [] (cup g 267 q (w32 (ro - 0))) o := by
  rw [zov hl0, zov hl2] at h
  have h := zm1 zy_250 h 5 (q := (cond (crel .ge ((k : Int)) (g 254 7)) 118 13, dset (dset lf 2 (0, (k : Int))) 0 (4, 253), [], g)) rfl
  dsimp only at h
  try rw [hN] at h
  rcases zif_ge h with ⟨hc1, h⟩ | ⟨hc1, h⟩
  · exact absurd hc1 (by omega)
  · have h := zm zy_250 h 7 (q := (25, dset (dset lf 2 (0, (k : Int))) 0 (4, 253), [(0, w32 (260 + (w32 (8 * ((k : Int)))))), (4, 254)], g)) rfl
    dsimp only at h
    try rw [w32_eq (z := 8 * ((k : Int))) (v := 8 * (k : Int)) (by omega) (by omega) (by omega)] at h
    try rw [w32_eq (z := 260 + (8 * (k : Int))) (v := 260 + 8 * (k : Int)) (by omega) (by omega) (by omega)] at h
    have h := zald zy_250 h rfl rfl (dvb_254 (i := 260 + 8 * (k : Int)) (by omega) (by omega))
    dsimp only at h
    try rw [show (260 + 8 * (k : Int)).toNat = 260 + 8 * k from by omega] at h
    try rw [hK] at h
    have h := zm zy_250 h 11 (q := (45, dset (dset lf 2 (0, (k : Int))) 0 (4, 253), [(0, w32 ((w32 (260 + (w32 (8 * ((k : Int)))))) + 5)), (4, 254)], g)) rfl
    dsimp only at h
    try rw [w32_eq (z := 8 * ((k : Int))) (v := 8 * (k : Int)) (by omega) (by omega) (by omega)] at h
    try rw [w32_eq (z := 260 + (8 * (k : Int))) (v := 260 + 8 * (k : Int)) (by omega) (by omega) (by omega)] at h
    try rw [w32_eq (z := (260 + 8 * (k : Int)) + 5) (v := 265 + 8 * (k : Int)) (by omega) (by omega) (by omega)] at h
    have h := zald zy_250 h rfl rfl (dvb_254 (i := 265 + 8 * (k : Int)) (by omega) (by omega))
    dsimp only at h
    try rw [show (265 + 8 * (k : Int)).toNat = 265 + 8 * k from by omega] at h
    try rw [hq] at h
    have h := zm zy_250 h 8 (q := (59, dset (dset (dset lf 2 (0, (k : Int))) 0 (4, 253)) 3 (0, (q : Int)), [(0, w32 (260 + (w32 (8 * ((q : Int)))))), (4, 254)], g)) rfl
    dsimp only at h
    try rw [w32_eq (z := 8 * ((q : Int))) (v := 8 * (q : Int)) (by omega) (by omega) (by omega)] at h
    try rw [w32_eq (z := 260 + (8 * (q : Int))) (v := 260 + 8 * (q : Int)) (by omega) (by omega) (by omega)] at h
    have h := zald zy_250 h rfl rfl (dvb_254 (i := 260 + 8 * (q : Int)) (by omega) (by omega))
    dsimp only at h
    try rw [show (260 + 8 * (q : Int)).toNat = 260 + 8 * q from by omega] at h
    try rw [hO] at h
    have h := zm zy_250 h 2 (q := (cond (crel .ne ((O : Int)) 20) 78 65, dset (dset (dset lf 2 (0, (k : Int))) 0 (4, 253)) 3 (0, (q : Int)), [], g)) rfl
    dsimp only at h
    rcases zif_ne h with ⟨hc2, h⟩ | ⟨hc2, h⟩
    · have h := zm zy_250 h 6 (q := (87, dset (dset (dset (dset lf 2 (0, (k : Int))) 0 (4, 253)) 3 (0, (q : Int))) 4 (0, 0), [(0, (q : Int)), (4, 267), (0, (q : Int)), (4, 267)], g)) rfl
      dsimp only at h
      have h := zald zy_250 h rfl rfl (dvb_267 (i := (q : Int)) (by omega) (by omega))
      dsimp only at h
      try rw [show ((q : Int)).toNat = q from by omega] at h
      try rw [hr] at h
      have h := zm zy_250 h 12 (q := (2, dset (dset (dset (dset (dset lf 2 (0, (k : Int))) 0 (4, 253)) 3 (0, (q : Int))) 4 (0, 0)) 2 (0, w32 (((k : Int)) + 1)), [], cup g 267 (((q : Int)).toNat) (w32 (ro - 0)))) rfl
      dsimp only at h
      try rw [w32_eq (z := ((k : Int)) + 1) (v := 1 + (k : Int)) (by omega) (by omega) (by omega)] at h
      try rw [show ((q : Int)).toNat = q from by omega] at h
      exact ⟨_, rfl, rfl, h⟩
    · exact absurd hc2 (by omega)
theorem m_dos_14 {sv : Nat → Int32} {L n : Nat} {lf : dlf} {g : cg} {o : cg × Option cv} {k W P Q T : Nat} (rk : k ≤ 59) (rW : W ≤ 5) (rP : P ≤ 5) (rQ : Q ≤ 4) (rT : T ≤ 7) (hK : g 254 (260 + 8 * k) = 14) (h1 : g 254 (261 + 8 * k) = (W : Int)) (h2 : g 254 (262 + 8 * k) = (P : Int)) (h3 : g 254 (263 + 8 * k) = (Q : Int)) (h4 : g 254 (264 + 8 * k) = (T : Int)) (h : zr sv L n 249 0 lf [] g o) (hl0 : lf 0 = (4, 253)) (hl1 : lf 1 = (0, 260 + 8 * (k : Int))) : ∃ g_1 r_1, zr sv L n 254 0 (darg 0 [(4, 253), (0, (W : Int)), (0, (P : Int)), (0, (Q : Int)), (0, (T : Int))]) [] g (g_1, some (0, r_1)) ∧ (o = (g_1, some (0, r_1))) := by
  rw [zov hl0, zov hl1] at h
  have h := zm zy_249 h 3 (q := (5, dset (dset lf 1 (0, 260 + 8 * (k : Int))) 0 (4, 253), [(0, 260 + 8 * (k : Int)), (4, 254)], g)) rfl
  dsimp only at h
  have h := zald zy_249 h rfl rfl (dvb_254 (i := 260 + 8 * (k : Int)) (by omega) (by omega))
  dsimp only at h
  try rw [show (260 + 8 * (k : Int)).toNat = 260 + 8 * k from by omega] at h
  try rw [hK] at h
  have h := zm zy_249 h 7 (q := (48, dset (dset lf 1 (0, 260 + 8 * (k : Int))) 0 (4, 253), [(0, w32 ((260 + 8 * (k : Int)) + 1)), (4, 254), (4, 253)], g)) rfl
  dsimp only at h
  try rw [w32_eq (z := (260 + 8 * (k : Int)) + 1) (v := 261 + 8 * (k : Int)) (by omega) (by omega) (by omega)] at h
  have h := zald zy_249 h rfl rfl (dvb_254 (i := 261 + 8 * (k : Int)) (by omega) (by omega))
  dsimp only at h
  try rw [show (261 + 8 * (k : Int)).toNat = 261 + 8 * k from by omega] at h
  try rw [h1] at h
  have h := zm zy_249 h 5 (q := (56, dset (dset lf 1 (0, 260 + 8 * (k : Int))) 0 (4, 253), [(0, w32 ((260 + 8 * (k : Int)) + 2)), (4, 254), (0, (W : Int)), (4, 253)], g)) rfl
  dsimp only at h
  try rw [w32_eq (z := (260 + 8 * (k : Int)) + 2) (v := 262 + 8 * (k : Int)) (by omega) (by omega) (by omega)] at h
  have h := zald zy_249 h rfl rfl (dvb_254 (i := 262 + 8 * (k : Int)) (by omega) (by omega))
  dsimp only at h
  try rw [show (262 + 8 * (k : Int)).toNat = 262 + 8 * k from by omega] at h
  try rw [h2] at h
  have h := zm zy_249 h 5 (q := (64, dset (dset lf 1 (0, 260 + 8 * (k : Int))) 0 (4, 253), [(0, w32 ((260 + 8 * (k : Int)) + 3)), (4, 254), (0, (P : Int)), (0, (W : Int)), (4, 253)], g)) rfl
  dsimp only at h
  try rw [w32_eq (z := (260 + 8 * (k : Int)) + 3) (v := 263 + 8 * (k : Int)) (by omega) (by omega) (by omega)] at h
  have h := zald zy_249 h rfl rfl (dvb_254 (i := 263 + 8 * (k : Int)) (by omega) (by omega))
  dsimp only at h
  try rw [show (263 + 8 * (k : Int)).toNat = 263 + 8 * k from by omega] at h
  try rw [h3] at h
  have h := zm zy_249 h 5 (q := (72, dset (dset lf 1 (0, 260 + 8 * (k : Int))) 0 (4, 253), [(0, w32 ((260 + 8 * (k : Int)) + 4)), (4, 254), (0, (Q : Int)), (0, (P : Int)), (0, (W : Int)), (4, 253)], g)) rfl
  dsimp only at h
  try rw [w32_eq (z := (260 + 8 * (k : Int)) + 4) (v := 264 + 8 * (k : Int)) (by omega) (by omega) (by omega)] at h
  have h := zald zy_249 h rfl rfl (dvb_254 (i := 264 + 8 * (k : Int)) (by omega) (by omega))
  dsimp only at h
  try rw [show (264 + 8 * (k : Int)).toNat = 264 + 8 * k from by omega] at h
  try rw [h4] at h
  obtain ⟨g_1, r_1, hk, h⟩ := zcallI zy_249 h rfl rfl zy_254 zk_254
  dsimp only at hk h
  refine ⟨g_1, r_1, hk, ?_⟩
  exact zret zy_249 h rfl rfl
theorem m_dos_18 {sv : Nat → Int32} {L n : Nat} {lf : dlf} {g : cg} {o : cg × Option cv} {k W P : Nat} (rk : k ≤ 59) (rW : W ≤ 5) (rP : P ≤ 5) (hK : g 254 (260 + 8 * k) = 18) (h1 : g 254 (261 + 8 * k) = (W : Int)) (h2 : g 254 (262 + 8 * k) = (P : Int)) (h : zr sv L n 249 0 lf [] g o) (hl0 : lf 0 = (4, 253)) (hl1 : lf 1 = (0, 260 + 8 * (k : Int))) : ∃ g_1 r_1, zr sv L n 252 0 (darg 0 [(4, 253), (0, (W : Int)), (0, (P : Int))]) [] g (g_1, some (0, r_1)) ∧ (o = (g_1, some (0, r_1))) := by
  rw [zov hl0, zov hl1] at h
  have h := zm zy_249 h 3 (q := (5, dset (dset lf 1 (0, 260 + 8 * (k : Int))) 0 (4, 253), [(0, 260 + 8 * (k : Int)), (4, 254)], g)) rfl
  dsimp only at h
  have h := zald zy_249 h rfl rfl (dvb_254 (i := 260 + 8 * (k : Int)) (by omega) (by omega))
  dsimp only at h
  try rw [show (260 + 8 * (k : Int)).toNat = 260 + 8 * k from by omega] at h
  try rw [hK] at h
  have h := zm zy_249 h 7 (q := (85, dset (dset lf 1 (0, 260 + 8 * (k : Int))) 0 (4, 253), [(0, w32 ((260 + 8 * (k : Int)) + 1)), (4, 254), (4, 253)], g)) rfl
  dsimp only at h
  try rw [w32_eq (z := (260 + 8 * (k : Int)) + 1) (v := 261 + 8 * (k : Int)) (by omega) (by omega) (by omega)] at h
  have h := zald zy_249 h rfl rfl (dvb_254 (i := 261 + 8 * (k : Int)) (by omega) (by omega))
  dsimp only at h
  try rw [show (261 + 8 * (k : Int)).toNat = 261 + 8 * k from by omega] at h
  try rw [h1] at h
  have h := zm zy_249 h 5 (q := (93, dset (dset lf 1 (0, 260 + 8 * (k : Int))) 0 (4, 253), [(0, w32 ((260 + 8 * (k : Int)) + 2)), (4, 254), (0, (W : Int)), (4, 253)], g)) rfl
  dsimp only at h
  try rw [w32_eq (z := (260 + 8 * (k : Int)) + 2) (v := 262 + 8 * (k : Int)) (by omega) (by omega) (by omega)] at h
  have h := zald zy_249 h rfl rfl (dvb_254 (i := 262 + 8 * (k : Int)) (by omega) (by omega))
  dsimp only at h
  try rw [show (262 + 8 * (k : Int)).toNat = 262 + 8 * k from by omega] at h
  try rw [h2] at h
  obtain ⟨g_1, r_1, hk, h⟩ := zcallI zy_249 h rfl rfl zy_252 zk_252
  dsimp only at hk h
  refine ⟨g_1, r_1, hk, ?_⟩
  exact zret zy_249 h rfl rfl
theorem m_dos_16 {sv : Nat → Int32} {L n : Nat} {lf : dlf} {g : cg} {o : cg × Option cv} {k P Q T : Nat} (rk : k ≤ 59) (rP : P ≤ 5) (rQ : Q ≤ 4) (rT : T ≤ 7) (hK : g 254 (260 + 8 * k) = 16) (h2 : g 254 (262 + 8 * k) = (P : Int)) (h3 : g 254 (263 + 8 * k) = (Q : Int)) (h4 : g 254 (264 + 8 * k) = (T : Int)) (h : zr sv L n 249 0 lf [] g o) (hl0 : lf 0 = (4, 253)) (hl1 : lf 1 = (0, 260 + 8 * (k : Int))) : ∃ g_1 r_1, zr sv L n 234 0 (darg 0 [(4, 253), (0, (P : Int)), (0, (Q : Int)), (0, (T : Int))]) [] g (g_1, some (0, r_1)) ∧ (((r_1 < 0) ∧ (o = (g_1, some (0, 0)))) ∨ ((0 ≤ r_1) ∧ (o = (g_1, some (0, 1))))) := by
  rw [zov hl0, zov hl1] at h
  have h := zm zy_249 h 3 (q := (5, dset (dset lf 1 (0, 260 + 8 * (k : Int))) 0 (4, 253), [(0, 260 + 8 * (k : Int)), (4, 254)], g)) rfl
  dsimp only at h
  have h := zald zy_249 h rfl rfl (dvb_254 (i := 260 + 8 * (k : Int)) (by omega) (by omega))
  dsimp only at h
  try rw [show (260 + 8 * (k : Int)).toNat = 260 + 8 * k from by omega] at h
  try rw [hK] at h
  have h := zm zy_249 h 7 (q := (106, dset (dset lf 1 (0, 260 + 8 * (k : Int))) 0 (4, 253), [(0, w32 ((260 + 8 * (k : Int)) + 2)), (4, 254), (4, 253)], g)) rfl
  dsimp only at h
  try rw [w32_eq (z := (260 + 8 * (k : Int)) + 2) (v := 262 + 8 * (k : Int)) (by omega) (by omega) (by omega)] at h
  have h := zald zy_249 h rfl rfl (dvb_254 (i := 262 + 8 * (k : Int)) (by omega) (by omega))
  dsimp only at h
  try rw [show (262 + 8 * (k : Int)).toNat = 262 + 8 * k from by omega] at h
  try rw [h2] at h
  have h := zm zy_249 h 5 (q := (114, dset (dset lf 1 (0, 260 + 8 * (k : Int))) 0 (4, 253), [(0, w32 ((260 + 8 * (k : Int)) + 3)), (4, 254), (0, (P : Int)), (4, 253)], g)) rfl
  dsimp only at h
  try rw [w32_eq (z := (260 + 8 * (k : Int)) + 3) (v := 263 + 8 * (k : Int)) (by omega) (by omega) (by omega)] at h
  have h := zald zy_249 h rfl rfl (dvb_254 (i := 263 + 8 * (k : Int)) (by omega) (by omega))
  dsimp only at h
  try rw [show (263 + 8 * (k : Int)).toNat = 263 + 8 * k from by omega] at h
  try rw [h3] at h
  have h := zm zy_249 h 5 (q := (122, dset (dset lf 1 (0, 260 + 8 * (k : Int))) 0 (4, 253), [(0, w32 ((260 + 8 * (k : Int)) + 4)), (4, 254), (0, (Q : Int)), (0, (P : Int)), (4, 253)], g)) rfl
  dsimp only at h
  try rw [w32_eq (z := (260 + 8 * (k : Int)) + 4) (v := 264 + 8 * (k : Int)) (by omega) (by omega) (by omega)] at h
  have h := zald zy_249 h rfl rfl (dvb_254 (i := 264 + 8 * (k : Int)) (by omega) (by omega))
  dsimp only at h
  try rw [show (264 + 8 * (k : Int)).toNat = 264 + 8 * k from by omega] at h
  try rw [h4] at h
  obtain ⟨g_1, r_1, hk, h⟩ := zcallI zy_249 h rfl rfl zy_234 zk_234
  dsimp only at hk h
  refine ⟨g_1, r_1, hk, ?_⟩
  have h := zm zy_249 h 1 (q := (cond (crel .lt r_1 0) 133 129, dset (dset lf 1 (0, 260 + 8 * (k : Int))) 0 (4, 253), [], g_1)) rfl
  dsimp only at h
  rcases zif_lt h with ⟨hc1, h⟩ | ⟨hc1, h⟩
  · have h := zm zy_249 h 1 (q := (134, dset (dset lf 1 (0, 260 + 8 * (k : Int))) 0 (4, 253), [(0, 0)], g_1)) rfl
    dsimp only at h
    refine Or.inl (⟨hc1, ?_⟩)
    exact zret zy_249 h rfl rfl
  · have h := zm zy_249 h 2 (q := (134, dset (dset lf 1 (0, 260 + 8 * (k : Int))) 0 (4, 253), [(0, 1)], g_1)) rfl
    dsimp only at h
    refine Or.inr (⟨hc1, ?_⟩)
    exact zret zy_249 h rfl rfl
theorem m_dos_17 {sv : Nat → Int32} {L n : Nat} {lf : dlf} {g : cg} {o : cg × Option cv} {k W : Nat} (rk : k ≤ 59) (rW : W ≤ 5) (hK : g 254 (260 + 8 * k) = 17) (h1 : g 254 (261 + 8 * k) = (W : Int)) (h : zr sv L n 249 0 lf [] g o) (hl0 : lf 0 = (4, 253)) (hl1 : lf 1 = (0, 260 + 8 * (k : Int))) : ∃ g_1 r_1, zr sv L n 255 0 (darg 0 [(4, 253), (0, (W : Int))]) [] g (g_1, some (0, r_1)) ∧ (o = (g_1, some (0, r_1))) := by
  rw [zov hl0, zov hl1] at h
  have h := zm zy_249 h 3 (q := (5, dset (dset lf 1 (0, 260 + 8 * (k : Int))) 0 (4, 253), [(0, 260 + 8 * (k : Int)), (4, 254)], g)) rfl
  dsimp only at h
  have h := zald zy_249 h rfl rfl (dvb_254 (i := 260 + 8 * (k : Int)) (by omega) (by omega))
  dsimp only at h
  try rw [show (260 + 8 * (k : Int)).toNat = 260 + 8 * k from by omega] at h
  try rw [hK] at h
  have h := zm zy_249 h 7 (q := (143, dset (dset lf 1 (0, 260 + 8 * (k : Int))) 0 (4, 253), [(0, w32 ((260 + 8 * (k : Int)) + 1)), (4, 254), (4, 253)], g)) rfl
  dsimp only at h
  try rw [w32_eq (z := (260 + 8 * (k : Int)) + 1) (v := 261 + 8 * (k : Int)) (by omega) (by omega) (by omega)] at h
  have h := zald zy_249 h rfl rfl (dvb_254 (i := 261 + 8 * (k : Int)) (by omega) (by omega))
  dsimp only at h
  try rw [show (261 + 8 * (k : Int)).toNat = 261 + 8 * k from by omega] at h
  try rw [h1] at h
  obtain ⟨g_1, r_1, hk, h⟩ := zcallI zy_249 h rfl rfl zy_255 zk_255
  dsimp only at hk h
  refine ⟨g_1, r_1, hk, ?_⟩
  exact zret zy_249 h rfl rfl
theorem m_dos_1923 {sv : Nat → Int32} {L n : Nat} {lf : dlf} {g : cg} {o : cg × Option cv} {k : Nat} (rk : k ≤ 59) (hK : g 254 (260 + 8 * k) = 1923) (h : zr sv L n 249 0 lf [] g o) (hl0 : lf 0 = (4, 253)) (hl1 : lf 1 = (0, 260 + 8 * (k : Int))) : o = (g, some (0, 1)) := by
  rw [zov hl0, zov hl1] at h
  have h := zm zy_249 h 3 (q := (5, dset (dset lf 1 (0, 260 + 8 * (k : Int))) 0 (4, 253), [(0, 260 + 8 * (k : Int)), (4, 254)], g)) rfl
  dsimp only at h
  have h := zald zy_249 h rfl rfl (dvb_254 (i := 260 + 8 * (k : Int)) (by omega) (by omega))
  dsimp only at h
  try rw [show (260 + 8 * (k : Int)).toNat = 260 + 8 * k from by omega] at h
  try rw [hK] at h
  have h := zm zy_249 h 2 (q := (149, dset (dset lf 1 (0, 260 + 8 * (k : Int))) 0 (4, 253), [(0, 1)], g)) rfl
  dsimp only at h
  exact zret zy_249 h rfl rfl
theorem m_dos_1909 {sv : Nat → Int32} {L n : Nat} {lf : dlf} {g : cg} {o : cg × Option cv} {k : Nat} (rk : k ≤ 59) (hK : g 254 (260 + 8 * k) = 1909) (h : zr sv L n 249 0 lf [] g o) (hl0 : lf 0 = (4, 253)) (hl1 : lf 1 = (0, 260 + 8 * (k : Int))) : o = (g, some (0, 1)) := by
  rw [zov hl0, zov hl1] at h
  have h := zm zy_249 h 3 (q := (5, dset (dset lf 1 (0, 260 + 8 * (k : Int))) 0 (4, 253), [(0, 260 + 8 * (k : Int)), (4, 254)], g)) rfl
  dsimp only at h
  have h := zald zy_249 h rfl rfl (dvb_254 (i := 260 + 8 * (k : Int)) (by omega) (by omega))
  dsimp only at h
  try rw [show (260 + 8 * (k : Int)).toNat = 260 + 8 * k from by omega] at h
  try rw [hK] at h
  have h := zm zy_249 h 2 (q := (149, dset (dset lf 1 (0, 260 + 8 * (k : Int))) 0 (4, 253), [(0, 1)], g)) rfl
  dsimp only at h
  exact zret zy_249 h rfl rfl
theorem m_dos_1924 {sv : Nat → Int32} {L n : Nat} {lf : dlf} {g : cg} {o : cg × Option cv} {k : Nat} (rk : k ≤ 59) (hK : g 254 (260 + 8 * k) = 1924) (h : zr sv L n 249 0 lf [] g o) (hl0 : lf 0 = (4, 253)) (hl1 : lf 1 = (0, 260 + 8 * (k : Int))) : o = (g, some (0, 1)) := by
  rw [zov hl0, zov hl1] at h
  have h := zm zy_249 h 3 (q := (5, dset (dset lf 1 (0, 260 + 8 * (k : Int))) 0 (4, 253), [(0, 260 + 8 * (k : Int)), (4, 254)], g)) rfl
  dsimp only at h
  have h := zald zy_249 h rfl rfl (dvb_254 (i := 260 + 8 * (k : Int)) (by omega) (by omega))
  dsimp only at h
  try rw [show (260 + 8 * (k : Int)).toNat = 260 + 8 * k from by omega] at h
  try rw [hK] at h
  have h := zm zy_249 h 2 (q := (149, dset (dset lf 1 (0, 260 + 8 * (k : Int))) 0 (4, 253), [(0, 1)], g)) rfl
  dsimp only at h
  exact zret zy_249 h rfl rfl
theorem m_dos_20 {sv : Nat → Int32} {L n : Nat} {lf : dlf} {g : cg} {o : cg × Option cv} {k : Nat} (rk : k ≤ 59) (hK : g 254 (260 + 8 * k) = 20) (h : zr sv L n 249 0 lf [] g o) (hl0 : lf 0 = (4, 253)) (hl1 : lf 1 = (0, 260 + 8 * (k : Int))) : o = (g, some (0, 1)) := by
  rw [zov hl0, zov hl1] at h
  have h := zm zy_249 h 3 (q := (5, dset (dset lf 1 (0, 260 + 8 * (k : Int))) 0 (4, 253), [(0, 260 + 8 * (k : Int)), (4, 254)], g)) rfl
  dsimp only at h
  have h := zald zy_249 h rfl rfl (dvb_254 (i := 260 + 8 * (k : Int)) (by omega) (by omega))
  dsimp only at h
  try rw [show (260 + 8 * (k : Int)).toNat = 260 + 8 * k from by omega] at h
  try rw [hK] at h
  have h := zm zy_249 h 2 (q := (149, dset (dset lf 1 (0, 260 + 8 * (k : Int))) 0 (4, 253), [(0, 1)], g)) rfl
  dsimp only at h
  exact zret zy_249 h rfl rfl
theorem m_hld_1923 {sv : Nat → Int32} {L n : Nat} {lf : dlf} {g : cg} {o : cg × Option cv} {k : Nat} {sg v ti : Int} (rk : k ≤ 59) (hK : g 254 (260 + 8 * k) = 1923) (h6 : g 254 (266 + 8 * k) = sg) (h2 : g 254 (262 + 8 * k) = v) (hti : g 254 6 = ti) (h : zr sv L n 251 0 lf [] g o) (hl0 : lf 0 = (4, 253)) (hl1 : lf 1 = (0, 260 + 8 * (k : Int))) : (((sg ≠ 60 ∧ sg ≠ 62 ∧ ti ≠ v) ∨ (sg ≠ 60 ∧ sg = 62 ∧ ti ≤ v) ∨ (sg = 60 ∧ v ≤ ti)) ∧ (o = (g, some (0, 0)))) ∨ (((sg ≠ 60 ∧ sg ≠ 62 ∧ ti = v) ∨ (sg ≠ 60 ∧ sg = 62 ∧ v < ti) ∨ (sg = 60 ∧ ti < v)) ∧ (o = (g, some (0, 1)))) := by
  rw [zov hl0, zov hl1] at h
  have h := zm zy_251 h 3 (q := (5, dset (dset lf 1 (0, 260 + 8 * (k : Int))) 0 (4, 253), [(0, 260 + 8 * (k : Int)), (4, 254)], g)) rfl
  dsimp only at h
  have h := zald zy_251 h rfl rfl (dvb_254 (i := 260 + 8 * (k : Int)) (by omega) (by omega))
  dsimp only at h
  try rw [show (260 + 8 * (k : Int)).toNat = 260 + 8 * k from by omega] at h
  try rw [hK] at h
  have h := zm zy_251 h 20 (q := (96, dset (dset (dset (dset lf 1 (0, 260 + 8 * (k : Int))) 0 (4, 253)) 2 (0, 23)) 3 (0, g 254 6), [(0, w32 ((260 + 8 * (k : Int)) + 6)), (4, 254)], g)) rfl
  dsimp only at h
  try rw [hti] at h
  try rw [w32_eq (z := (260 + 8 * (k : Int)) + 6) (v := 266 + 8 * (k : Int)) (by omega) (by omega) (by omega)] at h
  have h := zald zy_251 h rfl rfl (dvb_254 (i := 266 + 8 * (k : Int)) (by omega) (by omega))
  dsimp only at h
  try rw [show (266 + 8 * (k : Int)).toNat = 266 + 8 * k from by omega] at h
  try rw [h6] at h
  have h := zm zy_251 h 2 (q := (cond (crel .ne sg 60) 122 102, dset (dset (dset (dset lf 1 (0, 260 + 8 * (k : Int))) 0 (4, 253)) 2 (0, 23)) 3 (0, ti), [], g)) rfl
  dsimp only at h
  rcases zif_ne h with ⟨hc1, h⟩ | ⟨hc1, h⟩
  · have h := zm zy_251 h 5 (q := (130, dset (dset (dset (dset lf 1 (0, 260 + 8 * (k : Int))) 0 (4, 253)) 2 (0, 23)) 3 (0, ti), [(0, w32 ((260 + 8 * (k : Int)) + 6)), (4, 254)], g)) rfl
    dsimp only at h
    try rw [w32_eq (z := (260 + 8 * (k : Int)) + 6) (v := 266 + 8 * (k : Int)) (by omega) (by omega) (by omega)] at h
    have h := zald zy_251 h rfl rfl (dvb_254 (i := 266 + 8 * (k : Int)) (by omega) (by omega))
    dsimp only at h
    try rw [show (266 + 8 * (k : Int)).toNat = 266 + 8 * k from by omega] at h
    try rw [h6] at h
    have h := zm zy_251 h 2 (q := (cond (crel .ne sg 62) 156 136, dset (dset (dset (dset lf 1 (0, 260 + 8 * (k : Int))) 0 (4, 253)) 2 (0, 23)) 3 (0, ti), [], g)) rfl
    dsimp only at h
    rcases zif_ne h with ⟨hc2, h⟩ | ⟨hc2, h⟩
    · have h := zm zy_251 h 6 (q := (164, dset (dset (dset (dset lf 1 (0, 260 + 8 * (k : Int))) 0 (4, 253)) 2 (0, 23)) 3 (0, ti), [(0, w32 ((260 + 8 * (k : Int)) + 2)), (4, 254), (0, ti)], g)) rfl
      dsimp only at h
      try rw [w32_eq (z := (260 + 8 * (k : Int)) + 2) (v := 262 + 8 * (k : Int)) (by omega) (by omega) (by omega)] at h
      have h := zald zy_251 h rfl rfl (dvb_254 (i := 262 + 8 * (k : Int)) (by omega) (by omega))
      dsimp only at h
      try rw [show (262 + 8 * (k : Int)).toNat = 262 + 8 * k from by omega] at h
      try rw [h2] at h
      have h := zm zy_251 h 1 (q := (cond (crel .ne ti v) 172 168, dset (dset (dset (dset lf 1 (0, 260 + 8 * (k : Int))) 0 (4, 253)) 2 (0, 23)) 3 (0, ti), [], g)) rfl
      dsimp only at h
      rcases zif_ne h with ⟨hc3, h⟩ | ⟨hc3, h⟩
      · have h := zm zy_251 h 1 (q := (173, dset (dset (dset (dset lf 1 (0, 260 + 8 * (k : Int))) 0 (4, 253)) 2 (0, 23)) 3 (0, ti), [(0, 0)], g)) rfl
        dsimp only at h
        refine Or.inl (⟨Or.inl (⟨hc1, hc2, hc3⟩), ?_⟩)
        exact zret zy_251 h rfl rfl
      · have h := zm zy_251 h 2 (q := (173, dset (dset (dset (dset lf 1 (0, 260 + 8 * (k : Int))) 0 (4, 253)) 2 (0, 23)) 3 (0, ti), [(0, 1)], g)) rfl
        dsimp only at h
        refine Or.inr (⟨Or.inl (⟨hc1, hc2, hc3⟩), ?_⟩)
        exact zret zy_251 h rfl rfl
    · have h := zm zy_251 h 6 (q := (144, dset (dset (dset (dset lf 1 (0, 260 + 8 * (k : Int))) 0 (4, 253)) 2 (0, 23)) 3 (0, ti), [(0, w32 ((260 + 8 * (k : Int)) + 2)), (4, 254), (0, ti)], g)) rfl
      dsimp only at h
      try rw [w32_eq (z := (260 + 8 * (k : Int)) + 2) (v := 262 + 8 * (k : Int)) (by omega) (by omega) (by omega)] at h
      have h := zald zy_251 h rfl rfl (dvb_254 (i := 262 + 8 * (k : Int)) (by omega) (by omega))
      dsimp only at h
      try rw [show (262 + 8 * (k : Int)).toNat = 262 + 8 * k from by omega] at h
      try rw [h2] at h
      have h := zm zy_251 h 1 (q := (cond (crel .le ti v) 152 148, dset (dset (dset (dset lf 1 (0, 260 + 8 * (k : Int))) 0 (4, 253)) 2 (0, 23)) 3 (0, ti), [], g)) rfl
      dsimp only at h
      rcases zif_le h with ⟨hc4, h⟩ | ⟨hc4, h⟩
      · have h := zm zy_251 h 2 (q := (173, dset (dset (dset (dset lf 1 (0, 260 + 8 * (k : Int))) 0 (4, 253)) 2 (0, 23)) 3 (0, ti), [(0, 0)], g)) rfl
        dsimp only at h
        refine Or.inl (⟨Or.inr (Or.inl (⟨hc1, hc2, hc4⟩)), ?_⟩)
        exact zret zy_251 h rfl rfl
      · have h := zm zy_251 h 2 (q := (173, dset (dset (dset (dset lf 1 (0, 260 + 8 * (k : Int))) 0 (4, 253)) 2 (0, 23)) 3 (0, ti), [(0, 1)], g)) rfl
        dsimp only at h
        refine Or.inr (⟨Or.inr (Or.inl (⟨hc1, hc2, hc4⟩)), ?_⟩)
        exact zret zy_251 h rfl rfl
  · have h := zm zy_251 h 6 (q := (110, dset (dset (dset (dset lf 1 (0, 260 + 8 * (k : Int))) 0 (4, 253)) 2 (0, 23)) 3 (0, ti), [(0, w32 ((260 + 8 * (k : Int)) + 2)), (4, 254), (0, ti)], g)) rfl
    dsimp only at h
    try rw [w32_eq (z := (260 + 8 * (k : Int)) + 2) (v := 262 + 8 * (k : Int)) (by omega) (by omega) (by omega)] at h
    have h := zald zy_251 h rfl rfl (dvb_254 (i := 262 + 8 * (k : Int)) (by omega) (by omega))
    dsimp only at h
    try rw [show (262 + 8 * (k : Int)).toNat = 262 + 8 * k from by omega] at h
    try rw [h2] at h
    have h := zm zy_251 h 1 (q := (cond (crel .ge ti v) 118 114, dset (dset (dset (dset lf 1 (0, 260 + 8 * (k : Int))) 0 (4, 253)) 2 (0, 23)) 3 (0, ti), [], g)) rfl
    dsimp only at h
    rcases zif_ge h with ⟨hc5, h⟩ | ⟨hc5, h⟩
    · have h := zm zy_251 h 2 (q := (173, dset (dset (dset (dset lf 1 (0, 260 + 8 * (k : Int))) 0 (4, 253)) 2 (0, 23)) 3 (0, ti), [(0, 0)], g)) rfl
      dsimp only at h
      refine Or.inl (⟨Or.inr (Or.inr (⟨hc1, hc5⟩)), ?_⟩)
      exact zret zy_251 h rfl rfl
    · have h := zm zy_251 h 2 (q := (173, dset (dset (dset (dset lf 1 (0, 260 + 8 * (k : Int))) 0 (4, 253)) 2 (0, 23)) 3 (0, ti), [(0, 1)], g)) rfl
      dsimp only at h
      refine Or.inr (⟨Or.inr (Or.inr (⟨hc1, hc5⟩)), ?_⟩)
      exact zret zy_251 h rfl rfl
theorem m_hld_1909 {sv : Nat → Int32} {L n : Nat} {lf : dlf} {g : cg} {o : cg × Option cv} {k P : Nat} {sg v pu : Int} (rk : k ≤ 59) (rP : P ≤ 5) (hK : g 254 (260 + 8 * k) = 1909) (h6 : g 254 (266 + 8 * k) = sg) (h2 : g 254 (262 + 8 * k) = v) (h1 : g 254 (261 + 8 * k) = (P : Int)) (hpu : g 254 (15 + 6 * P) = pu) (h : zr sv L n 251 0 lf [] g o) (hl0 : lf 0 = (4, 253)) (hl1 : lf 1 = (0, 260 + 8 * (k : Int))) : (((sg ≠ 60 ∧ sg ≠ 62 ∧ pu ≠ v) ∨ (sg ≠ 60 ∧ sg = 62 ∧ pu ≤ v) ∨ (sg = 60 ∧ v ≤ pu)) ∧ (o = (g, some (0, 0)))) ∨ (((sg ≠ 60 ∧ sg ≠ 62 ∧ pu = v) ∨ (sg ≠ 60 ∧ sg = 62 ∧ v < pu) ∨ (sg = 60 ∧ pu < v)) ∧ (o = (g, some (0, 1)))) := by
  rw [zov hl0, zov hl1] at h
  have h := zm zy_251 h 3 (q := (5, dset (dset lf 1 (0, 260 + 8 * (k : Int))) 0 (4, 253), [(0, 260 + 8 * (k : Int)), (4, 254)], g)) rfl
  dsimp only at h
  have h := zald zy_251 h rfl rfl (dvb_254 (i := 260 + 8 * (k : Int)) (by omega) (by omega))
  dsimp only at h
  try rw [show (260 + 8 * (k : Int)).toNat = 260 + 8 * k from by omega] at h
  try rw [hK] at h
  have h := zm zy_251 h 16 (q := (82, dset (dset (dset lf 1 (0, 260 + 8 * (k : Int))) 0 (4, 253)) 2 (0, 9), [(0, w32 ((260 + 8 * (k : Int)) + 1)), (4, 254), (4, 254)], g)) rfl
  dsimp only at h
  try rw [w32_eq (z := (260 + 8 * (k : Int)) + 1) (v := 261 + 8 * (k : Int)) (by omega) (by omega) (by omega)] at h
  have h := zald zy_251 h rfl rfl (dvb_254 (i := 261 + 8 * (k : Int)) (by omega) (by omega))
  dsimp only at h
  try rw [show (261 + 8 * (k : Int)).toNat = 261 + 8 * k from by omega] at h
  try rw [h1] at h
  obtain ⟨gz1, rz2, hk, h⟩ := zcallI zy_251 h rfl rfl zy_209 zk_209
  dsimp only at hk h
  have hO3 := h
  have h := hk
  clear hk
  have h := zm zy_209 h 5 (q := (7, darg 0 [(0, (P : Int))], [(0, w32 (15 + (w32 (6 * ((P : Int))))))], g)) rfl
  dsimp only at h
  try rw [w32_eq (z := 6 * ((P : Int))) (v := 6 * (P : Int)) (by omega) (by omega) (by omega)] at h
  try rw [w32_eq (z := 15 + (6 * (P : Int))) (v := 15 + 6 * (P : Int)) (by omega) (by omega) (by omega)] at h
  have h := zret zy_209 h rfl rfl
  obtain ⟨e1, e2⟩ := oI h
  have h := hO3
  rw [e1, e2] at h
  clear e1 e2
  clear hO3
  have h := zald zy_251 h rfl rfl (dvb_254 (i := 15 + 6 * (P : Int)) (by omega) (by omega))
  dsimp only at h
  try rw [show (15 + 6 * (P : Int)).toNat = 15 + 6 * P from by omega] at h
  try rw [hpu] at h
  have h := zm zy_251 h 6 (q := (96, dset (dset (dset (dset lf 1 (0, 260 + 8 * (k : Int))) 0 (4, 253)) 2 (0, 9)) 3 (0, pu), [(0, w32 ((260 + 8 * (k : Int)) + 6)), (4, 254)], g)) rfl
  dsimp only at h
  try rw [w32_eq (z := (260 + 8 * (k : Int)) + 6) (v := 266 + 8 * (k : Int)) (by omega) (by omega) (by omega)] at h
  have h := zald zy_251 h rfl rfl (dvb_254 (i := 266 + 8 * (k : Int)) (by omega) (by omega))
  dsimp only at h
  try rw [show (266 + 8 * (k : Int)).toNat = 266 + 8 * k from by omega] at h
  try rw [h6] at h
  have h := zm zy_251 h 2 (q := (cond (crel .ne sg 60) 122 102, dset (dset (dset (dset lf 1 (0, 260 + 8 * (k : Int))) 0 (4, 253)) 2 (0, 9)) 3 (0, pu), [], g)) rfl
  dsimp only at h
  rcases zif_ne h with ⟨hc4, h⟩ | ⟨hc4, h⟩
  · have h := zm zy_251 h 5 (q := (130, dset (dset (dset (dset lf 1 (0, 260 + 8 * (k : Int))) 0 (4, 253)) 2 (0, 9)) 3 (0, pu), [(0, w32 ((260 + 8 * (k : Int)) + 6)), (4, 254)], g)) rfl
    dsimp only at h
    try rw [w32_eq (z := (260 + 8 * (k : Int)) + 6) (v := 266 + 8 * (k : Int)) (by omega) (by omega) (by omega)] at h
    have h := zald zy_251 h rfl rfl (dvb_254 (i := 266 + 8 * (k : Int)) (by omega) (by omega))
    dsimp only at h
    try rw [show (266 + 8 * (k : Int)).toNat = 266 + 8 * k from by omega] at h
    try rw [h6] at h
    have h := zm zy_251 h 2 (q := (cond (crel .ne sg 62) 156 136, dset (dset (dset (dset lf 1 (0, 260 + 8 * (k : Int))) 0 (4, 253)) 2 (0, 9)) 3 (0, pu), [], g)) rfl
    dsimp only at h
    rcases zif_ne h with ⟨hc5, h⟩ | ⟨hc5, h⟩
    · have h := zm zy_251 h 6 (q := (164, dset (dset (dset (dset lf 1 (0, 260 + 8 * (k : Int))) 0 (4, 253)) 2 (0, 9)) 3 (0, pu), [(0, w32 ((260 + 8 * (k : Int)) + 2)), (4, 254), (0, pu)], g)) rfl
      dsimp only at h
      try rw [w32_eq (z := (260 + 8 * (k : Int)) + 2) (v := 262 + 8 * (k : Int)) (by omega) (by omega) (by omega)] at h
      have h := zald zy_251 h rfl rfl (dvb_254 (i := 262 + 8 * (k : Int)) (by omega) (by omega))
      dsimp only at h
      try rw [show (262 + 8 * (k : Int)).toNat = 262 + 8 * k from by omega] at h
      try rw [h2] at h
      have h := zm zy_251 h 1 (q := (cond (crel .ne pu v) 172 168, dset (dset (dset (dset lf 1 (0, 260 + 8 * (k : Int))) 0 (4, 253)) 2 (0, 9)) 3 (0, pu), [], g)) rfl
      dsimp only at h
      rcases zif_ne h with ⟨hc6, h⟩ | ⟨hc6, h⟩
      · have h := zm zy_251 h 1 (q := (173, dset (dset (dset (dset lf 1 (0, 260 + 8 * (k : Int))) 0 (4, 253)) 2 (0, 9)) 3 (0, pu), [(0, 0)], g)) rfl
        dsimp only at h
        refine Or.inl (⟨Or.inl (⟨hc4, hc5, hc6⟩), ?_⟩)
        exact zret zy_251 h rfl rfl
      · have h := zm zy_251 h 2 (q := (173, dset (dset (dset (dset lf 1 (0, 260 + 8 * (k : Int))) 0 (4, 253)) 2 (0, 9)) 3 (0, pu), [(0, 1)], g)) rfl
        dsimp only at h
        refine Or.inr (⟨Or.inl (⟨hc4, hc5, hc6⟩), ?_⟩)
        exact zret zy_251 h rfl rfl
    · have h := zm zy_251 h 6 (q := (144, dset (dset (dset (dset lf 1 (0, 260 + 8 * (k : Int))) 0 (4, 253)) 2 (0, 9)) 3 (0, pu), [(0, w32 ((260 + 8 * (k : Int)) + 2)), (4, 254), (0, pu)], g)) rfl
      dsimp only at h
      try rw [w32_eq (z := (260 + 8 * (k : Int)) + 2) (v := 262 + 8 * (k : Int)) (by omega) (by omega) (by omega)] at h
      have h := zald zy_251 h rfl rfl (dvb_254 (i := 262 + 8 * (k : Int)) (by omega) (by omega))
      dsimp only at h
      try rw [show (262 + 8 * (k : Int)).toNat = 262 + 8 * k from by omega] at h
      try rw [h2] at h
      have h := zm zy_251 h 1 (q := (cond (crel .le pu v) 152 148, dset (dset (dset (dset lf 1 (0, 260 + 8 * (k : Int))) 0 (4, 253)) 2 (0, 9)) 3 (0, pu), [], g)) rfl
      dsimp only at h
      rcases zif_le h with ⟨hc7, h⟩ | ⟨hc7, h⟩
      · have h := zm zy_251 h 2 (q := (173, dset (dset (dset (dset lf 1 (0, 260 + 8 * (k : Int))) 0 (4, 253)) 2 (0, 9)) 3 (0, pu), [(0, 0)], g)) rfl
        dsimp only at h
        refine Or.inl (⟨Or.inr (Or.inl (⟨hc4, hc5, hc7⟩)), ?_⟩)
        exact zret zy_251 h rfl rfl
      · have h := zm zy_251 h 2 (q := (173, dset (dset (dset (dset lf 1 (0, 260 + 8 * (k : Int))) 0 (4, 253)) 2 (0, 9)) 3 (0, pu), [(0, 1)], g)) rfl
        dsimp only at h
        refine Or.inr (⟨Or.inr (Or.inl (⟨hc4, hc5, hc7⟩)), ?_⟩)
        exact zret zy_251 h rfl rfl
  · have h := zm zy_251 h 6 (q := (110, dset (dset (dset (dset lf 1 (0, 260 + 8 * (k : Int))) 0 (4, 253)) 2 (0, 9)) 3 (0, pu), [(0, w32 ((260 + 8 * (k : Int)) + 2)), (4, 254), (0, pu)], g)) rfl
    dsimp only at h
    try rw [w32_eq (z := (260 + 8 * (k : Int)) + 2) (v := 262 + 8 * (k : Int)) (by omega) (by omega) (by omega)] at h
    have h := zald zy_251 h rfl rfl (dvb_254 (i := 262 + 8 * (k : Int)) (by omega) (by omega))
    dsimp only at h
    try rw [show (262 + 8 * (k : Int)).toNat = 262 + 8 * k from by omega] at h
    try rw [h2] at h
    have h := zm zy_251 h 1 (q := (cond (crel .ge pu v) 118 114, dset (dset (dset (dset lf 1 (0, 260 + 8 * (k : Int))) 0 (4, 253)) 2 (0, 9)) 3 (0, pu), [], g)) rfl
    dsimp only at h
    rcases zif_ge h with ⟨hc8, h⟩ | ⟨hc8, h⟩
    · have h := zm zy_251 h 2 (q := (173, dset (dset (dset (dset lf 1 (0, 260 + 8 * (k : Int))) 0 (4, 253)) 2 (0, 9)) 3 (0, pu), [(0, 0)], g)) rfl
      dsimp only at h
      refine Or.inl (⟨Or.inr (Or.inr (⟨hc4, hc8⟩)), ?_⟩)
      exact zret zy_251 h rfl rfl
    · have h := zm zy_251 h 2 (q := (173, dset (dset (dset (dset lf 1 (0, 260 + 8 * (k : Int))) 0 (4, 253)) 2 (0, 9)) 3 (0, pu), [(0, 1)], g)) rfl
      dsimp only at h
      refine Or.inr (⟨Or.inr (Or.inr (⟨hc4, hc8⟩)), ?_⟩)
      exact zret zy_251 h rfl rfl
theorem m_hld_1924 {sv : Nat → Int32} {L n : Nat} {lf : dlf} {g : cg} {o : cg × Option cv} {k P Q T : Nat} (rk : k ≤ 59) (rP : P ≤ 5) (rQ : Q ≤ 4) (rT : T ≤ 7) (hK : g 254 (260 + 8 * k) = 1924) (h2 : g 254 (262 + 8 * k) = (P : Int)) (h3 : g 254 (263 + 8 * k) = (Q : Int)) (h4 : g 254 (264 + 8 * k) = (T : Int)) (h : zr sv L n 251 0 lf [] g o) (hl0 : lf 0 = (4, 253)) (hl1 : lf 1 = (0, 260 + 8 * (k : Int))) : ∃ g_1 r_1, zr sv L n 226 0 (darg 0 [(4, 253), (0, (P : Int)), (0, (Q : Int)), (0, (T : Int)), (0, (-1))]) [] g (g_1, some (0, r_1)) ∧ (((r_1 ≤ 0) ∧ (o = (g_1, some (0, 0)))) ∨ ((0 < r_1) ∧ (o = (g_1, some (0, 1))))) := by
  rw [zov hl0, zov hl1] at h
  have h := zm zy_251 h 3 (q := (5, dset (dset lf 1 (0, 260 + 8 * (k : Int))) 0 (4, 253), [(0, 260 + 8 * (k : Int)), (4, 254)], g)) rfl
  dsimp only at h
  have h := zald zy_251 h rfl rfl (dvb_254 (i := 260 + 8 * (k : Int)) (by omega) (by omega))
  dsimp only at h
  try rw [show (260 + 8 * (k : Int)).toNat = 260 + 8 * k from by omega] at h
  try rw [hK] at h
  have h := zm zy_251 h 12 (q := (25, dset (dset (dset lf 1 (0, 260 + 8 * (k : Int))) 0 (4, 253)) 2 (0, 24), [(0, w32 ((260 + 8 * (k : Int)) + 2)), (4, 254), (4, 253)], g)) rfl
  dsimp only at h
  try rw [w32_eq (z := (260 + 8 * (k : Int)) + 2) (v := 262 + 8 * (k : Int)) (by omega) (by omega) (by omega)] at h
  have h := zald zy_251 h rfl rfl (dvb_254 (i := 262 + 8 * (k : Int)) (by omega) (by omega))
  dsimp only at h
  try rw [show (262 + 8 * (k : Int)).toNat = 262 + 8 * k from by omega] at h
  try rw [h2] at h
  have h := zm zy_251 h 5 (q := (33, dset (dset (dset lf 1 (0, 260 + 8 * (k : Int))) 0 (4, 253)) 2 (0, 24), [(0, w32 ((260 + 8 * (k : Int)) + 3)), (4, 254), (0, (P : Int)), (4, 253)], g)) rfl
  dsimp only at h
  try rw [w32_eq (z := (260 + 8 * (k : Int)) + 3) (v := 263 + 8 * (k : Int)) (by omega) (by omega) (by omega)] at h
  have h := zald zy_251 h rfl rfl (dvb_254 (i := 263 + 8 * (k : Int)) (by omega) (by omega))
  dsimp only at h
  try rw [show (263 + 8 * (k : Int)).toNat = 263 + 8 * k from by omega] at h
  try rw [h3] at h
  have h := zm zy_251 h 5 (q := (41, dset (dset (dset lf 1 (0, 260 + 8 * (k : Int))) 0 (4, 253)) 2 (0, 24), [(0, w32 ((260 + 8 * (k : Int)) + 4)), (4, 254), (0, (Q : Int)), (0, (P : Int)), (4, 253)], g)) rfl
  dsimp only at h
  try rw [w32_eq (z := (260 + 8 * (k : Int)) + 4) (v := 264 + 8 * (k : Int)) (by omega) (by omega) (by omega)] at h
  have h := zald zy_251 h rfl rfl (dvb_254 (i := 264 + 8 * (k : Int)) (by omega) (by omega))
  dsimp only at h
  try rw [show (264 + 8 * (k : Int)).toNat = 264 + 8 * k from by omega] at h
  try rw [h4] at h
  have h := zm zy_251 h 1 (q := (43, dset (dset (dset lf 1 (0, 260 + 8 * (k : Int))) 0 (4, 253)) 2 (0, 24), [(0, (-1)), (0, (T : Int)), (0, (Q : Int)), (0, (P : Int)), (4, 253)], g)) rfl
  dsimp only at h
  obtain ⟨g_1, r_1, hk, h⟩ := zcallI zy_251 h rfl rfl zy_226 zk_226
  dsimp only at hk h
  refine ⟨g_1, r_1, hk, ?_⟩
  have h := zm zy_251 h 1 (q := (cond (crel .le r_1 0) 53 49, dset (dset (dset lf 1 (0, 260 + 8 * (k : Int))) 0 (4, 253)) 2 (0, 24), [], g_1)) rfl
  dsimp only at h
  rcases zif_le h with ⟨hc1, h⟩ | ⟨hc1, h⟩
  · have h := zm zy_251 h 1 (q := (54, dset (dset (dset lf 1 (0, 260 + 8 * (k : Int))) 0 (4, 253)) 2 (0, 24), [(0, 0)], g_1)) rfl
    dsimp only at h
    refine Or.inl (⟨hc1, ?_⟩)
    exact zret zy_251 h rfl rfl
  · have h := zm zy_251 h 2 (q := (54, dset (dset (dset lf 1 (0, 260 + 8 * (k : Int))) 0 (4, 253)) 2 (0, 24), [(0, 1)], g_1)) rfl
    dsimp only at h
    refine Or.inr (⟨hc1, ?_⟩)
    exact zret zy_251 h rfl rfl
theorem m_swb {sv : Nat → Int32} {L n : Nat} {lf : dlf} {g : cg} {o : cg × Option cv} {W P Q T : Nat} (rW : W ≤ 5) (rP : P ≤ 5) (rQ : Q ≤ 4) (rT : T ≤ 7) (h : zr sv L n 254 0 lf [] g o) (hl0 : lf 0 = (4, 253)) (hl1 : lf 1 = (0, (W : Int))) (hl2 : lf 2 = (0, (P : Int))) (hl3 : lf 3 = (0, (Q : Int))) (hl4 : lf 4 = (0, (T : Int))) : ∃ g_1 r_1, zr sv L n 220 0 (darg 0 [(4, 253), (0, (W : Int)), (0, (P : Int)), (0, (Q : Int)), (0, (T : Int))]) [] g (g_1, some (0, r_1)) ∧ (((r_1 ≤ 0) ∧ (∃ g_2, zr sv L n 228 0 (darg 0 [(4, 253), (0, (W : Int)), (0, (P : Int)), (0, (Q : Int)), (0, (T : Int))]) [] g_1 (g_2, none) ∧ (0 ≤ w32 ((w32 (99 + (w32 (8 * (w32 ((g_2 254 2) - 1)))))) + 4) → w32 ((w32 (99 + (w32 (8 * (w32 ((g_2 254 2) - 1)))))) + 4) < 5208 → (o = (cup (cup g_2 268 1 (w32 ((g_2 268 1) + 1))) 268 3 (w32 ((g_2 268 3) + (g_2 254 ((w32 ((w32 (99 + (w32 (8 * (w32 ((g_2 254 2) - 1)))))) + 4)).toNat)))), some (0, 1)))))) ∨ ((0 < r_1) ∧ (o = (g_1, some (0, 0))))) := by
  rw [zov hl0, zov hl1, zov hl2, zov hl3, zov hl4] at h
  have h := zm zy_254 h 5 (q := (6, dset (dset (dset (dset (dset lf 4 (0, (T : Int))) 3 (0, (Q : Int))) 2 (0, (P : Int))) 1 (0, (W : Int))) 0 (4, 253), [(0, (T : Int)), (0, (Q : Int)), (0, (P : Int)), (0, (W : Int)), (4, 253)], g)) rfl
  dsimp only at h
  obtain ⟨g_1, r_1, hk, h⟩ := zcallI zy_254 h rfl rfl zy_220 zk_220
  dsimp only at hk h
  refine ⟨g_1, r_1, hk, ?_⟩
  have h := zm zy_254 h 1 (q := (cond (crel .le r_1 0) 14 12, dset (dset (dset (dset (dset lf 4 (0, (T : Int))) 3 (0, (Q : Int))) 2 (0, (P : Int))) 1 (0, (W : Int))) 0 (4, 253), [], g_1)) rfl
  dsimp only at h
  rcases zif_le h with ⟨hc1, h⟩ | ⟨hc1, h⟩
  · have h := zm zy_254 h 5 (q := (20, dset (dset (dset (dset (dset lf 4 (0, (T : Int))) 3 (0, (Q : Int))) 2 (0, (P : Int))) 1 (0, (W : Int))) 0 (4, 253), [(0, (T : Int)), (0, (Q : Int)), (0, (P : Int)), (0, (W : Int)), (4, 253)], g_1)) rfl
    dsimp only at h
    obtain ⟨g_2, hk, h⟩ := zcallV zy_254 h rfl rfl zy_228 zk_228
    dsimp only at hk h
    refine Or.inl (⟨hc1, ?_⟩)
    refine ⟨g_2, hk, ?_⟩
    have h := zm zy_254 h 20 (q := (49, dset (dset (dset (dset (dset lf 4 (0, (T : Int))) 3 (0, (Q : Int))) 2 (0, (P : Int))) 1 (0, (W : Int))) 0 (4, 253), [(0, w32 ((g_2 254 2) - 1)), (4, 253), (0, g_2 268 3), (0, 3), (4, 268)], cup g_2 268 1 (w32 ((g_2 268 1) + 1)))) rfl
    dsimp only at h
    obtain ⟨gz2, rz3, hk, h⟩ := zcallI zy_254 h rfl rfl zy_212 zk_212
    dsimp only at hk h
    have hO4 := h
    have h := hk
    clear hk
    have h := zm zy_212 h 3 (q := (5, darg 0 [(4, 253), (0, w32 ((g_2 254 2) - 1))], [(0, w32 ((g_2 254 2) - 1)), (4, 254)], cup g_2 268 1 (w32 ((g_2 268 1) + 1)))) rfl
    dsimp only at h
    obtain ⟨gz5, rz6, hk, h⟩ := zcallI zy_212 h rfl rfl zy_199 zk_199
    dsimp only at hk h
    have hO7 := h
    have h := hk
    clear hk
    have h := zm zy_199 h 5 (q := (7, darg 0 [(0, w32 ((g_2 254 2) - 1))], [(0, w32 (99 + (w32 (8 * (w32 ((g_2 254 2) - 1))))))], cup g_2 268 1 (w32 ((g_2 268 1) + 1)))) rfl
    dsimp only at h
    have h := zret zy_199 h rfl rfl
    obtain ⟨e1, e2⟩ := oI h
    have h := hO7
    rw [e1, e2] at h
    clear e1 e2
    clear hO7
    have h := zm zy_212 h 2 (q := (10, darg 0 [(4, 253), (0, w32 ((g_2 254 2) - 1))], [(0, w32 ((w32 (99 + (w32 (8 * (w32 ((g_2 254 2) - 1)))))) + 4)), (4, 254)], cup g_2 268 1 (w32 ((g_2 268 1) + 1)))) rfl
    dsimp only at h
    intro ha8 hb9
    have h := zald zy_212 h rfl rfl (dvb_254 (i := w32 ((w32 (99 + (w32 (8 * (w32 ((g_2 254 2) - 1)))))) + 4)) ha8 hb9)
    dsimp only at h
    try rw [cup_ne (g := g_2) (k := 268) (j := 1) (k' := 254) (j' := (w32 ((w32 (99 + (w32 (8 * (w32 ((g_2 254 2) - 1)))))) + 4)).toNat) (by omega)] at h
    have h := zret zy_212 h rfl rfl
    obtain ⟨e1, e2⟩ := oI h
    have h := hO4
    rw [e1, e2] at h
    clear e1 e2
    clear hO4
    have h := zm zy_254 h 3 (q := (55, dset (dset (dset (dset (dset lf 4 (0, (T : Int))) 3 (0, (Q : Int))) 2 (0, (P : Int))) 1 (0, (W : Int))) 0 (4, 253), [(0, 1)], cup (cup g_2 268 1 (w32 ((g_2 268 1) + 1))) 268 3 (w32 ((g_2 268 3) + (g_2 254 ((w32 ((w32 (99 + (w32 (8 * (w32 ((g_2 254 2) - 1)))))) + 4)).toNat)))))) rfl
    dsimp only at h
    exact zret zy_254 h rfl rfl
  · have h := zm zy_254 h 1 (q := (13, dset (dset (dset (dset (dset lf 4 (0, (T : Int))) 3 (0, (Q : Int))) 2 (0, (P : Int))) 1 (0, (W : Int))) 0 (4, 253), [(0, 0)], g_1)) rfl
    dsimp only at h
    refine Or.inr (⟨hc1, ?_⟩)
    exact zret zy_254 h rfl rfl
theorem m_dra {sv : Nat → Int32} {L n : Nat} {lf : dlf} {g : cg} {o : cg × Option cv} {m dr : Nat} (rm : m ≤ 40) (rdr : dr ≤ 65535) (hd : g 253 33 = (dr : Int)) (h : zr sv L n 253 0 lf [] g o) (hl0 : lf 0 = (4, 253)) (hl1 : lf 1 = (0, (m : Int))) : o = (cup g 253 33 (qre (11149 + 2953 * (dr : Int)) 65536), some (0, qre (qdi (qre (11149 + 2953 * (dr : Int)) 65536) 8) ((m : Int)))) := by
  rw [zov hl0, zov hl1] at h
  have h := zm zy_253 h 16 (q := (29, dset (dset lf 1 (0, (m : Int))) 0 (4, 253), [(0, qre (qdi (qre (w32 ((w32 ((g 253 33) * 2953)) + 11149)) 65536) 8) ((m : Int)))], cup g 253 33 (qre (w32 ((w32 ((g 253 33) * 2953)) + 11149)) 65536))) rfl
  dsimp only at h
  try rw [hd] at h
  try rw [w32_eq (z := ((dr : Int)) * 2953) (v := 2953 * (dr : Int)) (by omega) (by omega) (by omega)] at h
  try rw [w32_eq (z := (2953 * (dr : Int)) + 11149) (v := 11149 + 2953 * (dr : Int)) (by omega) (by omega) (by omega)] at h
  exact zret zy_253 h rfl rfl
theorem m_swa0 {sv : Nat → Int32} {L n : Nat} {lf : dlf} {g : cg} {o : cg × Option cv} {W P : Nat} (rW : W ≤ 5) (rP : P ≤ 5) (h : zr sv L n 252 0 lf [] g o) (hl0 : lf 0 = (4, 253)) (hl1 : lf 1 = (0, (W : Int))) (hl2 : lf 2 = (0, (P : Int))) : ∃ g_1 r_1, zr sv L n 242 0 (darg 0 [(4, 253), (0, (W : Int)), (0, (P : Int))]) [] g (g_1, some (0, r_1)) ∧ (((r_1 ≠ 0) ∧ (∃ g_2 r_2, zr sv L n 253 0 (darg 0 [(4, 253), (0, r_1)]) [] g_1 (g_2, some (0, r_2)) ∧ (∃ lf', lf' 0 = (4, 253) ∧ lf' 1 = (0, (W : Int)) ∧ lf' 2 = (0, (P : Int)) ∧ lf' 4 = (0, r_2) ∧ lf' 5 = (0, 0) ∧ zr sv L n 252 23 lf' [] g_2 o))) ∨ ((r_1 = 0) ∧ (o = (g_1, some (0, 0))))) := by
  rw [zov hl0, zov hl1, zov hl2] at h
  have h := zm zy_252 h 3 (q := (3, dset (dset (dset lf 2 (0, (P : Int))) 1 (0, (W : Int))) 0 (4, 253), [(0, (P : Int)), (0, (W : Int)), (4, 253)], g)) rfl
  dsimp only at h
  obtain ⟨g_1, r_1, hk, h⟩ := zcallI zy_252 h rfl rfl zy_242 zk_242
  dsimp only at hk h
  refine ⟨g_1, r_1, hk, ?_⟩
  have h := zm zy_252 h 3 (q := (cond (crel .ne r_1 0) 13 11, dset (dset (dset (dset lf 2 (0, (P : Int))) 1 (0, (W : Int))) 0 (4, 253)) 3 (0, r_1), [], g_1)) rfl
  dsimp only at h
  rcases zif_ne h with ⟨hc1, h⟩ | ⟨hc1, h⟩
  · have h := zm zy_252 h 2 (q := (15, dset (dset (dset (dset lf 2 (0, (P : Int))) 1 (0, (W : Int))) 0 (4, 253)) 3 (0, r_1), [(0, r_1), (4, 253)], g_1)) rfl
    dsimp only at h
    obtain ⟨g_2, r_2, hk, h⟩ := zcallI zy_252 h rfl rfl zy_253 zk_253
    dsimp only at hk h
    refine Or.inl (⟨hc1, ?_⟩)
    refine ⟨g_2, r_2, hk, ?_⟩
    have h := zm zy_252 h 3 (q := (23, dset (dset (dset (dset (dset (dset lf 2 (0, (P : Int))) 1 (0, (W : Int))) 0 (4, 253)) 3 (0, r_1)) 4 (0, r_2)) 5 (0, 0), [], g_2)) rfl
    dsimp only at h
    exact ⟨_, rfl, rfl, rfl, rfl, rfl, h⟩
  · have h := zm zy_252 h 1 (q := (12, dset (dset (dset (dset lf 2 (0, (P : Int))) 1 (0, (W : Int))) 0 (4, 253)) 3 (0, r_1), [(0, 0)], g_1)) rfl
    dsimp only at h
    refine Or.inr (⟨hc1, ?_⟩)
    exact zret zy_252 h rfl rfl
theorem m_swa23s {sv : Nat → Int32} {L n : Nat} {lf : dlf} {g : cg} {o : cg × Option cv} {W P c k N : Nat} (rW : W ≤ 5) (rP : P ≤ 5) (rc : c ≤ 40) (rk : k ≤ 39) (rN : N ≤ 5) (hN : g 254 0 = (N : Int)) (hlt : k < 8 * N) (h : zr sv L (n + 1) 252 23 lf [] g o) (hl0 : lf 0 = (4, 253)) (hl1 : lf 1 = (0, (W : Int))) (hl2 : lf 2 = (0, (P : Int))) (hl4 : lf 4 = (0, (c : Int))) (hl5 : lf 5 = (0, (k : Int))) : ∃ g_1 r_1, zr sv L n 220 0 (darg 0 [(4, 253), (0, (W : Int)), (0, (P : Int)), (0, qre ((k : Int)) ((N : Int))), (0, qdi ((k : Int)) ((N : Int)))]) [] g (g_1, some (0, r_1)) ∧ (((r_1 ≤ 0 ∧ (c : Int) ≠ 0) ∧ (∃ lf', lf' 0 = (4, 253) ∧ lf' 1 = (0, (W : Int)) ∧ lf' 2 = (0, (P : Int)) ∧ lf' 4 = (0, (c : Int) - 1) ∧ lf' 5 = (0, 1 + (k : Int)) ∧ zr sv L n 252 23 lf' [] g_1 o)) ∨ ((r_1 ≤ 0 ∧ (c : Int) = 0) ∧ (∃ g_2 r_2, zr sv L n 254 0 (darg 0 [(4, 253), (0, (W : Int)), (0, (P : Int)), (0, qre ((k : Int)) ((N : Int))), (0, qdi ((k : Int)) ((N : Int)))]) [] g_1 (g_2, some (0, r_2)) ∧ (o = (g_2, some (0, r_2))))) ∨ ((0 < r_1) ∧ (∃ lf', lf' 0 = (4, 253) ∧ lf' 1 = (0, (W : Int)) ∧ lf' 2 = (0, (P : Int)) ∧ lf' 4 = (0, (c : Int)) ∧ lf' 5 = (0, 1 + (k : Int)) ∧ zr sv L n 252 23 lf' [] g_1 o))) := by
  rw [zov hl0, zov hl1, zov hl2, zov hl4, zov hl5] at h
  have h := zm1 zy_252 h 7 (q := (cond (crel .ge ((k : Int)) (w32 (8 * (g 254 0)))) 100 37, dset (dset (dset (dset (dset lf 5 (0, (k : Int))) 4 (0, (c : Int))) 2 (0, (P : Int))) 1 (0, (W : Int))) 0 (4, 253), [], g)) rfl
  dsimp only at h
  try rw [hN] at h
  try rw [w32_eq (z := 8 * ((N : Int))) (v := 8 * (N : Int)) (by omega) (by omega) (by omega)] at h
  rcases zif_ge h with ⟨hc1, h⟩ | ⟨hc1, h⟩
  · exact absurd hc1 (by omega)
  · have h := zm zy_252 h 19 (q := (66, dset (dset (dset (dset (dset (dset (dset lf 5 (0, (k : Int))) 4 (0, (c : Int))) 2 (0, (P : Int))) 1 (0, (W : Int))) 0 (4, 253)) 6 (0, qdi ((k : Int)) (g 254 0))) 7 (0, qre ((k : Int)) (g 254 0)), [(0, qdi ((k : Int)) (g 254 0)), (0, qre ((k : Int)) (g 254 0)), (0, (P : Int)), (0, (W : Int)), (4, 253)], g)) rfl
    dsimp only at h
    try rw [hN] at h
    obtain ⟨g_1, r_1, hk, h⟩ := zcallI zy_252 h rfl rfl zy_220 zk_220
    dsimp only at hk h
    refine ⟨g_1, r_1, hk, ?_⟩
    have h := zm zy_252 h 1 (q := (cond (crel .le r_1 0) 75 72, dset (dset (dset (dset (dset (dset (dset lf 5 (0, (k : Int))) 4 (0, (c : Int))) 2 (0, (P : Int))) 1 (0, (W : Int))) 0 (4, 253)) 6 (0, qdi ((k : Int)) ((N : Int)))) 7 (0, qre ((k : Int)) ((N : Int))), [], g_1)) rfl
    dsimp only at h
    rcases zif_le h with ⟨hc2, h⟩ | ⟨hc2, h⟩
    · have h := zm zy_252 h 2 (q := (cond (crel .ne ((c : Int)) 0) 91 80, dset (dset (dset (dset (dset (dset (dset lf 5 (0, (k : Int))) 4 (0, (c : Int))) 2 (0, (P : Int))) 1 (0, (W : Int))) 0 (4, 253)) 6 (0, qdi ((k : Int)) ((N : Int)))) 7 (0, qre ((k : Int)) ((N : Int))), [], g_1)) rfl
      dsimp only at h
      rcases zif_ne h with ⟨hc3, h⟩ | ⟨hc3, h⟩
      · have h := zm zy_252 h 3 (q := (23, dset (dset (dset (dset (dset (dset (dset (dset (dset lf 5 (0, (k : Int))) 4 (0, (c : Int))) 2 (0, (P : Int))) 1 (0, (W : Int))) 0 (4, 253)) 6 (0, qdi ((k : Int)) ((N : Int)))) 7 (0, qre ((k : Int)) ((N : Int)))) 4 (0, w32 (((c : Int)) + ((-1))))) 5 (0, w32 (((k : Int)) + 1)), [], g_1)) rfl
        dsimp only at h
        try rw [w32_eq (z := ((c : Int)) + ((-1))) (v := (c : Int) - 1) (by omega) (by omega) (by omega)] at h
        try rw [w32_eq (z := ((k : Int)) + 1) (v := 1 + (k : Int)) (by omega) (by omega) (by omega)] at h
        refine Or.inl (⟨⟨hc2, hc3⟩, ?_⟩)
        exact ⟨_, rfl, rfl, rfl, rfl, rfl, h⟩
      · have h := zm zy_252 h 5 (q := (87, dset (dset (dset (dset (dset (dset (dset lf 5 (0, (k : Int))) 4 (0, (c : Int))) 2 (0, (P : Int))) 1 (0, (W : Int))) 0 (4, 253)) 6 (0, qdi ((k : Int)) ((N : Int)))) 7 (0, qre ((k : Int)) ((N : Int))), [(0, qdi ((k : Int)) ((N : Int))), (0, qre ((k : Int)) ((N : Int))), (0, (P : Int)), (0, (W : Int)), (4, 253)], g_1)) rfl
        dsimp only at h
        obtain ⟨g_2, r_2, hk, h⟩ := zcallI zy_252 h rfl rfl zy_254 zk_254
        dsimp only at hk h
        refine Or.inr (Or.inl (⟨⟨hc2, hc3⟩, ?_⟩))
        refine ⟨g_2, r_2, hk, ?_⟩
        exact zret zy_252 h rfl rfl
    · have h := zm zy_252 h 3 (q := (23, dset (dset (dset (dset (dset (dset (dset (dset lf 5 (0, (k : Int))) 4 (0, (c : Int))) 2 (0, (P : Int))) 1 (0, (W : Int))) 0 (4, 253)) 6 (0, qdi ((k : Int)) ((N : Int)))) 7 (0, qre ((k : Int)) ((N : Int)))) 5 (0, w32 (((k : Int)) + 1)), [], g_1)) rfl
      dsimp only at h
      try rw [w32_eq (z := ((k : Int)) + 1) (v := 1 + (k : Int)) (by omega) (by omega) (by omega)] at h
      refine Or.inr (Or.inr (⟨hc2, ?_⟩))
      exact ⟨_, rfl, rfl, rfl, rfl, rfl, h⟩
theorem m_swa23e {sv : Nat → Int32} {L n : Nat} {lf : dlf} {g : cg} {o : cg × Option cv} {W P c k N : Nat} (rW : W ≤ 5) (rP : P ≤ 5) (rc : c ≤ 40) (rk : k ≤ 40) (rN : N ≤ 5) (hN : g 254 0 = (N : Int)) (hge : 8 * N ≤ k) (h : zr sv L (n + 1) 252 23 lf [] g o) (hl0 : lf 0 = (4, 253)) (hl1 : lf 1 = (0, (W : Int))) (hl2 : lf 2 = (0, (P : Int))) (hl4 : lf 4 = (0, (c : Int))) (hl5 : lf 5 = (0, (k : Int))) : o = (g, some (0, 0)) := by
  rw [zov hl0, zov hl1, zov hl2, zov hl4, zov hl5] at h
  have h := zm1 zy_252 h 7 (q := (cond (crel .ge ((k : Int)) (w32 (8 * (g 254 0)))) 100 37, dset (dset (dset (dset (dset lf 5 (0, (k : Int))) 4 (0, (c : Int))) 2 (0, (P : Int))) 1 (0, (W : Int))) 0 (4, 253), [], g)) rfl
  dsimp only at h
  try rw [hN] at h
  try rw [w32_eq (z := 8 * ((N : Int))) (v := 8 * (N : Int)) (by omega) (by omega) (by omega)] at h
  rcases zif_ge h with ⟨hc1, h⟩ | ⟨hc1, h⟩
  · have h := zm zy_252 h 1 (q := (101, dset (dset (dset (dset (dset lf 5 (0, (k : Int))) 4 (0, (c : Int))) 2 (0, (P : Int))) 1 (0, (W : Int))) 0 (4, 253), [(0, 0)], g)) rfl
    dsimp only at h
    exact zret zy_252 h rfl rfl
  · exact absurd hc1 (by omega)
theorem m_sbl0 {sv : Nat → Int32} {L n : Nat} {lf : dlf} {g : cg} {o : cg × Option cv} {W P : Nat} (rW : W ≤ 5) (rP : P ≤ 5) (h : zr sv L n 242 0 lf [] g o) (hl0 : lf 0 = (4, 253)) (hl1 : lf 1 = (0, (W : Int))) (hl2 : lf 2 = (0, (P : Int))) : ∃ lf', lf' 0 = (4, 253) ∧ lf' 1 = (0, (W : Int)) ∧ lf' 2 = (0, (P : Int)) ∧ lf' 3 = (0, 0) ∧ lf' 4 = (0, 0) ∧ zr sv L n 242 5 lf' [] g o := by
  rw [zov hl0, zov hl1, zov hl2] at h
  have h := zm zy_242 h 4 (q := (5, dset (dset (dset (dset (dset lf 2 (0, (P : Int))) 1 (0, (W : Int))) 0 (4, 253)) 3 (0, 0)) 4 (0, 0), [], g)) rfl
  dsimp only at h
  exact ⟨_, rfl, rfl, rfl, rfl, rfl, h⟩
theorem m_sbl5s {sv : Nat → Int32} {L n : Nat} {lf : dlf} {g : cg} {o : cg × Option cv} {W P c T : Nat} (rW : W ≤ 5) (rP : P ≤ 5) (rc : c ≤ 40) (rT : T ≤ 7) (h : zr sv L (n + 1) 242 5 lf [] g o) (hl0 : lf 0 = (4, 253)) (hl1 : lf 1 = (0, (W : Int))) (hl2 : lf 2 = (0, (P : Int))) (hl3 : lf 3 = (0, (c : Int))) (hl4 : lf 4 = (0, (T : Int))) : ∃ lf', lf' 0 = (4, 253) ∧ lf' 1 = (0, (W : Int)) ∧ lf' 2 = (0, (P : Int)) ∧ lf' 3 = (0, (c : Int)) ∧ lf' 4 = (0, (T : Int)) ∧ lf' 5 = (0, 0) ∧ zr sv L n 242 15 lf' [] g o := by
  rw [zov hl0, zov hl1, zov hl2, zov hl3, zov hl4] at h
  have h := zm1 zy_242 h 2 (q := (cond (crel .ge ((T : Int)) 8) 59 12, dset (dset (dset (dset (dset lf 4 (0, (T : Int))) 3 (0, (c : Int))) 2 (0, (P : Int))) 1 (0, (W : Int))) 0 (4, 253), [], g)) rfl
  dsimp only at h
  rcases zif_ge h with ⟨hc1, h⟩ | ⟨hc1, h⟩
  · exact absurd hc1 (by omega)
  · have h := zm zy_242 h 2 (q := (15, dset (dset (dset (dset (dset (dset lf 4 (0, (T : Int))) 3 (0, (c : Int))) 2 (0, (P : Int))) 1 (0, (W : Int))) 0 (4, 253)) 5 (0, 0), [], g)) rfl
    dsimp only at h
    exact ⟨_, rfl, rfl, rfl, rfl, rfl, rfl, h⟩
theorem m_sbl5e {sv : Nat → Int32} {L n : Nat} {lf : dlf} {g : cg} {o : cg × Option cv} {c : Nat} (rc : c ≤ 40) (h : zr sv L (n + 1) 242 5 lf [] g o) (hl0 : lf 0 = (4, 253)) (hl3 : lf 3 = (0, (c : Int))) (hl4 : lf 4 = (0, 8)) : o = (g, some (0, (c : Int))) := by
  rw [zov hl0, zov hl3, zov hl4] at h
  have h := zm1 zy_242 h 3 (q := (60, dset (dset (dset lf 4 (0, 8)) 3 (0, (c : Int))) 0 (4, 253), [(0, (c : Int))], g)) rfl
  dsimp only at h
  exact zret zy_242 h rfl rfl
theorem m_sbl15s {sv : Nat → Int32} {L n : Nat} {lf : dlf} {g : cg} {o : cg × Option cv} {W P c T q N : Nat} (rW : W ≤ 5) (rP : P ≤ 5) (rc : c ≤ 39) (rT : T ≤ 7) (rq : q ≤ 4) (rN : N ≤ 5) (hN : g 254 0 = (N : Int)) (hlt : q < N) (h : zr sv L (n + 1) 242 15 lf [] g o) (hl0 : lf 0 = (4, 253)) (hl1 : lf 1 = (0, (W : Int))) (hl2 : lf 2 = (0, (P : Int))) (hl3 : lf 3 = (0, (c : Int))) (hl4 : lf 4 = (0, (T : Int))) (hl5 : lf 5 = (0, (q : Int))) : ∃ g_1 r_1, zr sv L n 220 0 (darg 0 [(4, 253), (0, (W : Int)), (0, (P : Int)), (0, (q : Int)), (0, (T : Int))]) [] g (g_1, some (0, r_1)) ∧ (((r_1 ≠ 0) ∧ (∃ lf', lf' 0 = (4, 253) ∧ lf' 1 = (0, (W : Int)) ∧ lf' 2 = (0, (P : Int)) ∧ lf' 3 = (0, (c : Int)) ∧ lf' 4 = (0, (T : Int)) ∧ lf' 5 = (0, 1 + (q : Int)) ∧ zr sv L n 242 15 lf' [] g_1 o)) ∨ ((r_1 = 0) ∧ (∃ lf', lf' 0 = (4, 253) ∧ lf' 1 = (0, (W : Int)) ∧ lf' 2 = (0, (P : Int)) ∧ lf' 3 = (0, 1 + (c : Int)) ∧ lf' 4 = (0, (T : Int)) ∧ lf' 5 = (0, 1 + (q : Int)) ∧ zr sv L n 242 15 lf' [] g_1 o))) := by
  rw [zov hl0, zov hl1, zov hl2, zov hl3, zov hl4, zov hl5] at h
  have h := zm1 zy_242 h 5 (q := (cond (crel .ge ((q : Int)) (g 254 0)) 53 26, dset (dset (dset (dset (dset (dset lf 5 (0, (q : Int))) 4 (0, (T : Int))) 3 (0, (c : Int))) 2 (0, (P : Int))) 1 (0, (W : Int))) 0 (4, 253), [], g)) rfl
  dsimp only at h
  try rw [hN] at h
  rcases zif_ge h with ⟨hc1, h⟩ | ⟨hc1, h⟩
  · exact absurd hc1 (by omega)
  · have h := zm zy_242 h 6 (q := (34, dset (dset (dset (dset (dset (dset lf 5 (0, (q : Int))) 4 (0, (T : Int))) 3 (0, (c : Int))) 2 (0, (P : Int))) 1 (0, (W : Int))) 0 (4, 253), [(0, (T : Int)), (0, (q : Int)), (0, (P : Int)), (0, (W : Int)), (4, 253), (0, (c : Int))], g)) rfl
    dsimp only at h
    obtain ⟨g_1, r_1, hk, h⟩ := zcallI zy_242 h rfl rfl zy_220 zk_220
    dsimp only at hk h
    refine ⟨g_1, r_1, hk, ?_⟩
    have h := zm zy_242 h 1 (q := (cond (crel .ne r_1 0) 44 40, dset (dset (dset (dset (dset (dset lf 5 (0, (q : Int))) 4 (0, (T : Int))) 3 (0, (c : Int))) 2 (0, (P : Int))) 1 (0, (W : Int))) 0 (4, 253), [(0, (c : Int))], g_1)) rfl
    dsimp only at h
    rcases zif_ne h with ⟨hc2, h⟩ | ⟨hc2, h⟩
    · have h := zm zy_242 h 5 (q := (15, dset (dset (dset (dset (dset (dset (dset (dset lf 5 (0, (q : Int))) 4 (0, (T : Int))) 3 (0, (c : Int))) 2 (0, (P : Int))) 1 (0, (W : Int))) 0 (4, 253)) 3 (0, w32 (((c : Int)) + 0))) 5 (0, w32 (((q : Int)) + 1)), [], g_1)) rfl
      dsimp only at h
      try rw [w32_eq (z := ((c : Int)) + 0) (v := (c : Int)) (by omega) (by omega) (by omega)] at h
      try rw [w32_eq (z := ((q : Int)) + 1) (v := 1 + (q : Int)) (by omega) (by omega) (by omega)] at h
      refine Or.inl (⟨hc2, ?_⟩)
      exact ⟨_, rfl, rfl, rfl, rfl, rfl, rfl, h⟩
    · have h := zm zy_242 h 6 (q := (15, dset (dset (dset (dset (dset (dset (dset (dset lf 5 (0, (q : Int))) 4 (0, (T : Int))) 3 (0, (c : Int))) 2 (0, (P : Int))) 1 (0, (W : Int))) 0 (4, 253)) 3 (0, w32 (((c : Int)) + 1))) 5 (0, w32 (((q : Int)) + 1)), [], g_1)) rfl
      dsimp only at h
      try rw [w32_eq (z := ((c : Int)) + 1) (v := 1 + (c : Int)) (by omega) (by omega) (by omega)] at h
      try rw [w32_eq (z := ((q : Int)) + 1) (v := 1 + (q : Int)) (by omega) (by omega) (by omega)] at h
      refine Or.inr (⟨hc2, ?_⟩)
      exact ⟨_, rfl, rfl, rfl, rfl, rfl, rfl, h⟩
theorem m_sbl15e {sv : Nat → Int32} {L n : Nat} {lf : dlf} {g : cg} {o : cg × Option cv} {W P c T q N : Nat} (rW : W ≤ 5) (rP : P ≤ 5) (rc : c ≤ 40) (rT : T ≤ 7) (rq : q ≤ 5) (rN : N ≤ 5) (hN : g 254 0 = (N : Int)) (hge : N ≤ q) (h : zr sv L (n + 1) 242 15 lf [] g o) (hl0 : lf 0 = (4, 253)) (hl1 : lf 1 = (0, (W : Int))) (hl2 : lf 2 = (0, (P : Int))) (hl3 : lf 3 = (0, (c : Int))) (hl4 : lf 4 = (0, (T : Int))) (hl5 : lf 5 = (0, (q : Int))) : ∃ lf', lf' 0 = (4, 253) ∧ lf' 1 = (0, (W : Int)) ∧ lf' 2 = (0, (P : Int)) ∧ lf' 3 = (0, (c : Int)) ∧ lf' 4 = (0, 1 + (T : Int)) ∧ zr sv L n 242 5 lf' [] g o := by
  rw [zov hl0, zov hl1, zov hl2, zov hl3, zov hl4, zov hl5] at h
  have h := zm1 zy_242 h 5 (q := (cond (crel .ge ((q : Int)) (g 254 0)) 53 26, dset (dset (dset (dset (dset (dset lf 5 (0, (q : Int))) 4 (0, (T : Int))) 3 (0, (c : Int))) 2 (0, (P : Int))) 1 (0, (W : Int))) 0 (4, 253), [], g)) rfl
  dsimp only at h
  try rw [hN] at h
  rcases zif_ge h with ⟨hc1, h⟩ | ⟨hc1, h⟩
  · have h := zm zy_242 h 2 (q := (5, dset (dset (dset (dset (dset (dset (dset lf 5 (0, (q : Int))) 4 (0, (T : Int))) 3 (0, (c : Int))) 2 (0, (P : Int))) 1 (0, (W : Int))) 0 (4, 253)) 4 (0, w32 (((T : Int)) + 1)), [], g)) rfl
    dsimp only at h
    try rw [w32_eq (z := ((T : Int)) + 1) (v := 1 + (T : Int)) (by omega) (by omega) (by omega)] at h
    exact ⟨_, rfl, rfl, rfl, rfl, rfl, h⟩
  · exact absurd hc1 (by omega)
theorem m_rcs0 {sv : Nat → Int32} {L n : Nat} {lf : dlf} {g : cg} {o : cg × Option cv} {W N : Nat} (rW : W ≤ 5) (rN : N ≤ 16) (hN : g 254 2 = (N : Int)) (h : zr sv L n 255 0 lf [] g o) (hl0 : lf 0 = (4, 253)) (hl1 : lf 1 = (0, (W : Int))) : ∃ lf', lf' 0 = (4, 253) ∧ lf' 1 = (0, (W : Int)) ∧ lf' 2 = (0, (N : Int) - 1) ∧ zr sv L n 255 9 lf' [] g o := by
  rw [zov hl0, zov hl1] at h
  have h := zm zy_255 h 7 (q := (9, dset (dset (dset lf 1 (0, (W : Int))) 0 (4, 253)) 2 (0, w32 ((g 254 2) - 1)), [], g)) rfl
  dsimp only at h
  try rw [hN] at h
  try rw [w32_eq (z := ((N : Int)) - 1) (v := (N : Int) - 1) (by omega) (by omega) (by omega)] at h
  exact ⟨_, rfl, rfl, rfl, h⟩
theorem m_rcs_s {sv : Nat → Int32} {L n : Nat} {lf : dlf} {g : cg} {o : cg × Option cv} {W w p q t k : Nat} {f s b : Int} (rW : W ≤ 5) (rw : w ≤ 5) (rp : p ≤ 5) (rq : q ≤ 4) (rt : t ≤ 7) (rk : k ≤ 15) (hO : OHM g k w p q t f s b) (h : zr sv L (n + 1) 255 9 lf [] g o) (hl0 : lf 0 = (4, 253)) (hl1 : lf 1 = (0, (W : Int))) (hl2 : lf 2 = (0, (k : Int))) : ((((w : Int) ≠ (W : Int)) ∨ ((w : Int) = (W : Int) ∧ s ≠ 0)) ∧ (∃ lf', lf' 0 = (4, 253) ∧ lf' 1 = (0, (W : Int)) ∧ lf' 2 = (0, (k : Int) - 1) ∧ zr sv L n 255 9 lf' [] g o)) ∨ (((w : Int) = (W : Int) ∧ s = 0) ∧ (o = (cup g 254 (104 + 8 * k) 2, some (0, 1)))) := by
  rw [zov hl0, zov hl1, zov hl2] at h
  have h := zm1 zy_255 h 1 (q := (cond (crel .lt ((k : Int)) 0) 53 13, dset (dset (dset lf 2 (0, (k : Int))) 1 (0, (W : Int))) 0 (4, 253), [], g)) rfl
  dsimp only at h
  rcases zif_lt h with ⟨hc1, h⟩ | ⟨hc1, h⟩
  · exact absurd hc1 (by omega)
  · have h := zm zy_255 h 2 (q := (15, dset (dset (dset lf 2 (0, (k : Int))) 1 (0, (W : Int))) 0 (4, 253), [(0, (k : Int)), (4, 253)], g)) rfl
    dsimp only at h
    obtain ⟨gz2, rz3, hk, h⟩ := zcallI zy_255 h rfl rfl zy_211 zk_211
    dsimp only at hk h
    have hO4 := h
    have h := hk
    clear hk
    have h := zm zy_211 h 3 (q := (5, darg 0 [(4, 253), (0, (k : Int))], [(0, (k : Int)), (4, 254)], g)) rfl
    dsimp only at h
    obtain ⟨gz5, rz6, hk, h⟩ := zcallI zy_211 h rfl rfl zy_199 zk_199
    dsimp only at hk h
    have hO7 := h
    have h := hk
    clear hk
    have h := zm zy_199 h 5 (q := (7, darg 0 [(0, (k : Int))], [(0, w32 (99 + (w32 (8 * ((k : Int))))))], g)) rfl
    dsimp only at h
    try rw [w32_eq (z := 8 * ((k : Int))) (v := 8 * (k : Int)) (by omega) (by omega) (by omega)] at h
    try rw [w32_eq (z := 99 + (8 * (k : Int))) (v := 99 + 8 * (k : Int)) (by omega) (by omega) (by omega)] at h
    have h := zret zy_199 h rfl rfl
    obtain ⟨e1, e2⟩ := oI h
    have h := hO7
    rw [e1, e2] at h
    clear e1 e2
    clear hO7
    have h := zald zy_211 h rfl rfl (dvb_254 (i := 99 + 8 * (k : Int)) (by omega) (by omega))
    dsimp only at h
    try rw [show (99 + 8 * (k : Int)).toNat = 99 + 8 * k from by omega] at h
    try rw [hO.1] at h
    have h := zret zy_211 h rfl rfl
    obtain ⟨e1, e2⟩ := oI h
    have h := hO4
    rw [e1, e2] at h
    clear e1 e2
    clear hO4
    have h := zm zy_255 h 2 (q := (cond (crel .ne ((w : Int)) ((W : Int))) 47 22, dset (dset (dset lf 2 (0, (k : Int))) 1 (0, (W : Int))) 0 (4, 253), [], g)) rfl
    dsimp only at h
    rcases zif_ne h with ⟨hc8, h⟩ | ⟨hc8, h⟩
    · have h := zm zy_255 h 2 (q := (9, dset (dset (dset (dset lf 2 (0, (k : Int))) 1 (0, (W : Int))) 0 (4, 253)) 2 (0, w32 (((k : Int)) + ((-1)))), [], g)) rfl
      dsimp only at h
      try rw [w32_eq (z := ((k : Int)) + ((-1))) (v := (k : Int) - 1) (by omega) (by omega) (by omega)] at h
      refine Or.inl (⟨Or.inl (hc8), ?_⟩)
      exact ⟨_, rfl, rfl, rfl, h⟩
    · have h := zm zy_255 h 2 (q := (24, dset (dset (dset lf 2 (0, (k : Int))) 1 (0, (W : Int))) 0 (4, 253), [(0, (k : Int)), (4, 253)], g)) rfl
      dsimp only at h
      obtain ⟨gz10, rz11, hk, h⟩ := zcallI zy_255 h rfl rfl zy_201 zk_201
      dsimp only at hk h
      have hO12 := h
      have h := hk
      clear hk
      have h := zm zy_201 h 3 (q := (5, darg 0 [(4, 253), (0, (k : Int))], [(0, (k : Int)), (4, 254)], g)) rfl
      dsimp only at h
      obtain ⟨gz13, rz14, hk, h⟩ := zcallI zy_201 h rfl rfl zy_199 zk_199
      dsimp only at hk h
      have hO15 := h
      have h := hk
      clear hk
      have h := zm zy_199 h 5 (q := (7, darg 0 [(0, (k : Int))], [(0, w32 (99 + (w32 (8 * ((k : Int))))))], g)) rfl
      dsimp only at h
      try rw [w32_eq (z := 8 * ((k : Int))) (v := 8 * (k : Int)) (by omega) (by omega) (by omega)] at h
      try rw [w32_eq (z := 99 + (8 * (k : Int))) (v := 99 + 8 * (k : Int)) (by omega) (by omega) (by omega)] at h
      have h := zret zy_199 h rfl rfl
      obtain ⟨e1, e2⟩ := oI h
      have h := hO15
      rw [e1, e2] at h
      clear e1 e2
      clear hO15
      have h := zm zy_201 h 2 (q := (10, darg 0 [(4, 253), (0, (k : Int))], [(0, w32 ((99 + 8 * (k : Int)) + 5)), (4, 254)], g)) rfl
      dsimp only at h
      try rw [w32_eq (z := (99 + 8 * (k : Int)) + 5) (v := 104 + 8 * (k : Int)) (by omega) (by omega) (by omega)] at h
      have h := zald zy_201 h rfl rfl (dvb_254 (i := 104 + 8 * (k : Int)) (by omega) (by omega))
      dsimp only at h
      try rw [show (104 + 8 * (k : Int)).toNat = 104 + 8 * k from by omega] at h
      try rw [hO.2.2.2.2.2.1] at h
      have h := zm zy_201 h 1 (q := (cond (crel .ne s 0) 18 14, darg 0 [(4, 253), (0, (k : Int))], [], g)) rfl
      dsimp only at h
      rcases zif_ne h with ⟨hc16, h⟩ | ⟨hc16, h⟩
      · have h := zm zy_201 h 1 (q := (19, darg 0 [(4, 253), (0, (k : Int))], [(0, 0)], g)) rfl
        dsimp only at h
        have h := zret zy_201 h rfl rfl
        obtain ⟨e1, e2⟩ := oI h
        have h := hO12
        rw [e1, e2] at h
        clear e1 e2
        clear hO12
        have h := zm zy_255 h 4 (q := (9, dset (dset (dset (dset lf 2 (0, (k : Int))) 1 (0, (W : Int))) 0 (4, 253)) 2 (0, w32 (((k : Int)) + ((-1)))), [], g)) rfl
        dsimp only at h
        try rw [w32_eq (z := ((k : Int)) + ((-1))) (v := (k : Int) - 1) (by omega) (by omega) (by omega)] at h
        refine Or.inl (⟨Or.inr (⟨hc8, hc16⟩), ?_⟩)
        exact ⟨_, rfl, rfl, rfl, h⟩
      · have h := zm zy_201 h 2 (q := (19, darg 0 [(4, 253), (0, (k : Int))], [(0, 1)], g)) rfl
        dsimp only at h
        have h := zret zy_201 h rfl rfl
        obtain ⟨e1, e2⟩ := oI h
        have h := hO12
        rw [e1, e2] at h
        clear e1 e2
        clear hO12
        have h := zm zy_255 h 4 (q := (38, dset (dset (dset lf 2 (0, (k : Int))) 1 (0, (W : Int))) 0 (4, 253), [(0, (k : Int)), (4, 254)], g)) rfl
        dsimp only at h
        obtain ⟨gz18, rz19, hk, h⟩ := zcallI zy_255 h rfl rfl zy_199 zk_199
        dsimp only at hk h
        have hO20 := h
        have h := hk
        clear hk
        have h := zm zy_199 h 5 (q := (7, darg 0 [(0, (k : Int))], [(0, w32 (99 + (w32 (8 * ((k : Int))))))], g)) rfl
        dsimp only at h
        try rw [w32_eq (z := 8 * ((k : Int))) (v := 8 * (k : Int)) (by omega) (by omega) (by omega)] at h
        try rw [w32_eq (z := 99 + (8 * (k : Int))) (v := 99 + 8 * (k : Int)) (by omega) (by omega) (by omega)] at h
        have h := zret zy_199 h rfl rfl
        obtain ⟨e1, e2⟩ := oI h
        have h := hO20
        rw [e1, e2] at h
        clear e1 e2
        clear hO20
        have h := zm zy_255 h 5 (q := (46, dset (dset (dset lf 2 (0, (k : Int))) 1 (0, (W : Int))) 0 (4, 253), [(0, 1)], cup g 254 ((w32 ((99 + 8 * (k : Int)) + 5)).toNat) 2)) rfl
        dsimp only at h
        try rw [w32_eq (z := (99 + 8 * (k : Int)) + 5) (v := 104 + 8 * (k : Int)) (by omega) (by omega) (by omega)] at h
        try rw [show (104 + 8 * (k : Int)).toNat = 104 + 8 * k from by omega] at h
        refine Or.inr (⟨⟨hc8, hc16⟩, ?_⟩)
        exact zret zy_255 h rfl rfl
theorem m_rcs_e {sv : Nat → Int32} {L n : Nat} {lf : dlf} {g : cg} {o : cg × Option cv} {W : Nat} (rW : W ≤ 5) (h : zr sv L (n + 1) 255 9 lf [] g o) (hl0 : lf 0 = (4, 253)) (hl1 : lf 1 = (0, (W : Int))) (hl2 : lf 2 = (0, (-1))) : o = (g, some (0, 0)) := by
  rw [zov hl0, zov hl1, zov hl2] at h
  have h := zm1 zy_255 h 2 (q := (54, dset (dset (dset lf 2 (0, (-1))) 1 (0, (W : Int))) 0 (4, 253), [(0, 0)], g)) rfl
  dsimp only at h
  exact zret zy_255 h rfl rfl
end
