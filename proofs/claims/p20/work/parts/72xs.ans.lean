/-! small answers: printed by program (wip/tools/zan.py) -/
section
set_option maxRecDepth 100000
theorem zy_79 : xg xcode 79 = some xt_79 := rfl
theorem zk_79 : zkc 1 xt_79 = true := by decide +kernel
theorem zy_98 : xg xcode 98 = some xt_98 := rfl
theorem zk_98 : zkc 1 xt_98 = true := by decide +kernel
theorem zy_102 : xg xcode 102 = some xt_102 := rfl
theorem zk_102 : zkc 1 xt_102 = true := by decide +kernel
theorem zy_124 : xg xcode 124 = some xt_124 := rfl
theorem zk_124 : zkc 1 xt_124 = true := by decide +kernel
theorem zy_125 : xg xcode 125 = some xt_125 := rfl
theorem zk_125 : zkc 1 xt_125 = true := by decide +kernel
theorem zy_136 : xg xcode 136 = some xt_136 := rfl
theorem zk_136 : zkc 1 xt_136 = true := by decide +kernel
theorem zy_140 : xg xcode 140 = some xt_140 := rfl
theorem zk_140 : zkc 1 xt_140 = true := by decide +kernel
theorem zy_141 : xg xcode 141 = some xt_141 := rfl
theorem zk_141 : zkc 1 xt_141 = true := by decide +kernel
theorem zy_210 : xg xcode 210 = some xt_210 := rfl
theorem zk_210 : zkc 1 xt_210 = true := by decide +kernel
theorem zy_243 : xg xcode 243 = some xt_243 := rfl
theorem zk_243 : zkc 1 xt_243 = true := by decide +kernel
theorem zy_285 : xg xcode 285 = some xt_285 := rfl
theorem zk_285 : zkc 1 xt_285 = true := by decide +kernel
theorem zy_286 : xg xcode 286 = some xt_286 := rfl
theorem zk_286 : zkc 1 xt_286 = true := by decide +kernel
theorem zy_289 : xg xcode 289 = some xt_289 := rfl
theorem zk_289 : zkc 1 xt_289 = true := by decide +kernel
theorem zy_290 : xg xcode 290 = some xt_290 := rfl
theorem zk_290 : zkc 1 xt_290 = true := by decide +kernel
theorem zy_291 : xg xcode 291 = some xt_291 := rfl
theorem zk_291 : zkc 1 xt_291 = true := by decide +kernel
theorem zy_292 : xg xcode 292 = some xt_292 := rfl
theorem zk_292 : zkc 1 xt_292 = true := by decide +kernel
theorem zy_293 : xg xcode 293 = some xt_293 := rfl
theorem zk_293 : zkc 1 xt_293 = true := by decide +kernel
theorem zy_294 : xg xcode 294 = some xt_294 := rfl
theorem zk_294 : zkc 1 xt_294 = true := by decide +kernel
theorem zy_295 : xg xcode 295 = some xt_295 := rfl
theorem zk_295 : zkc 1 xt_295 = true := by decide +kernel
theorem zy_296 : xg xcode 296 = some xt_296 := rfl
theorem zk_296 : zkc 1 xt_296 = true := by decide +kernel
theorem zy_297 : xg xcode 297 = some xt_297 := rfl
theorem zk_297 : zkc 1 xt_297 = true := by decide +kernel
theorem zy_298 : xg xcode 298 = some xt_298 := rfl
theorem zk_298 : zkc 1 xt_298 = true := by decide +kernel
theorem zy_299 : xg xcode 299 = some xt_299 := rfl
theorem zk_299 : zkc 1 xt_299 = true := by decide +kernel
theorem zy_300 : xg xcode 300 = some xt_300 := rfl
theorem zk_300 : zkc 1 xt_300 = true := by decide +kernel
theorem zy_331 : xg xcode 331 = some xt_331 := rfl
theorem zk_331 : zkc 1 xt_331 = true := by decide +kernel
theorem zy_332 : xg xcode 332 = some xt_332 := rfl
theorem zk_332 : zkc 1 xt_332 = true := by decide +kernel
theorem zy_353 : xg xcode 353 = some xt_353 := rfl
theorem zk_353 : zkc 1 xt_353 = true := by decide +kernel
theorem zy_354 : xg xcode 354 = some xt_354 := rfl
theorem zk_354 : zkc 1 xt_354 = true := by decide +kernel
theorem zy_355 : xg xcode 355 = some xt_355 := rfl
theorem zk_355 : zkc 1 xt_355 = true := by decide +kernel
theorem zy_356 : xg xcode 356 = some xt_356 := rfl
theorem zk_356 : zkc 1 xt_356 = true := by decide +kernel
theorem ztab_0_2 {z : Int} : z = 0 ∨ z = 1 ∨ z = 2 ∨ (z < 0 ∨ 2 < z) := by omega
theorem t_a_gns {sv : Nat → Int32} {L n : Nat} {lf : dlf} {g : cg} {o : cg × Option cv} {a b c d : Int} (h : zr sv L n 297 0 lf [] g o) (hl0 : lf 0 = (4, 0)) (hl1 : lf 1 = (0, a)) (hl2 : lf 2 = (0, b)) (hl3 : lf 3 = (0, c)) (hl4 : lf 4 = (0, d)) : ∃ g_1 r_1, zr sv L n 89 0 (darg 0 [(4, 0), (0, a), (0, b), (0, c), (0, d)]) [] g (g_1, some (0, r_1)) ∧ (((r_1 = 0) ∧ (o = (cup g_1 0 0 1, some (0, (-1))))) ∨ ((r_1 ≠ 0) ∧ (∃ g_2 r_2, zr sv L n 97 0 (darg 0 [(4, 92), (0, c), (0, d)]) [] g_1 (g_2, some (0, r_2)) ∧ (o = (cup g_2 0 0 0, some (0, r_2)))))) := by
  rw [zov hl0, zov hl1, zov hl2, zov hl3, zov hl4] at h
  have h := zm zy_297 h 5 (q := (6, dset (dset (dset (dset (dset lf 4 (0, d)) 3 (0, c)) 2 (0, b)) 1 (0, a)) 0 (4, 0), [(0, d), (0, c), (0, b), (0, a), (4, 0)], g)) rfl
  dsimp only at h
  obtain ⟨g_1, r_1, hk, h⟩ := zcallI zy_297 h rfl rfl zy_89 zk_89
  dsimp only at hk h
  refine ⟨g_1, r_1, hk, ?_⟩
  have h := zm zy_297 h 1 (q := (cond (crel .eq r_1 0) 29 12, dset (dset (dset (dset (dset lf 4 (0, d)) 3 (0, c)) 2 (0, b)) 1 (0, a)) 0 (4, 0), [], g_1)) rfl
  dsimp only at h
  rcases zif_eq h with ⟨hc1, h⟩ | ⟨hc1, h⟩
  · have h := zm zy_297 h 2 (q := (31, dset (dset (dset (dset (dset lf 4 (0, d)) 3 (0, c)) 2 (0, b)) 1 (0, a)) 0 (4, 0), [(0, 1), (4, 0)], g_1)) rfl
    dsimp only at h
    obtain ⟨gz2, rz3, hk, h⟩ := zcallI zy_297 h rfl rfl zy_29 zk_29
    dsimp only at hk h
    have hO4 := h
    have h := hk
    clear hk
    have h := zm zy_29 h 4 (q := (6, darg 0 [(4, 0), (0, 1)], [(0, (-1))], cup g_1 0 0 1)) rfl
    dsimp only at h
    have h := zret zy_29 h rfl rfl
    obtain ⟨e1, e2⟩ := oI h
    have h := hO4
    rw [e1, e2] at h
    clear e1 e2
    clear hO4
    refine Or.inl (⟨hc1, ?_⟩)
    exact zret zy_297 h rfl rfl
  · have h := zm zy_297 h 5 (q := (20, dset (dset (dset (dset (dset lf 4 (0, d)) 3 (0, c)) 2 (0, b)) 1 (0, a)) 0 (4, 0), [(0, d), (0, c), (4, 92), (4, 0)], g_1)) rfl
    dsimp only at h
    obtain ⟨g_2, r_2, hk, h⟩ := zcallI zy_297 h rfl rfl zy_97 zk_97
    dsimp only at hk h
    refine Or.inr (⟨hc1, ?_⟩)
    refine ⟨g_2, r_2, hk, ?_⟩
    obtain ⟨gz5, rz6, hk, h⟩ := zcallI zy_297 h rfl rfl zy_64 zk_64
    dsimp only at hk h
    have hO7 := h
    have h := hk
    clear hk
    have h := zm zy_64 h 4 (q := (6, darg 0 [(4, 0), (0, r_2)], [(0, r_2)], cup g_2 0 0 0)) rfl
    dsimp only at h
    have h := zret zy_64 h rfl rfl
    obtain ⟨e1, e2⟩ := oI h
    have h := hO7
    rw [e1, e2] at h
    clear e1 e2
    clear hO7
    have h := zm zy_297 h 1 (q := (34, dset (dset (dset (dset (dset lf 4 (0, d)) 3 (0, c)) 2 (0, b)) 1 (0, a)) 0 (4, 0), [(0, r_2)], cup g_2 0 0 0)) rfl
    dsimp only at h
    exact zret zy_297 h rfl rfl
theorem m_a_gns {sv : Nat → Int32} {L n : Nat} {lf : dlf} {g : cg} {o : cg × Option cv} {a b c d : Int} (h : zr sv L n 298 0 lf [] g o) (hl0 : lf 0 = (4, 253)) (hl1 : lf 1 = (0, a)) (hl2 : lf 2 = (0, b)) (hl3 : lf 3 = (0, c)) (hl4 : lf 4 = (0, d)) : (((a < 0) ∨ (0 ≤ a ∧ g 254 1 ≤ a) ∨ (0 ≤ a ∧ a < g 254 1 ∧ b < 0) ∨ (0 ≤ a ∧ a < g 254 1 ∧ 0 ≤ b ∧ g 254 1 ≤ b) ∨ (0 ≤ a ∧ a < g 254 1 ∧ 0 ≤ b ∧ b < g 254 1 ∧ c < 0) ∨ (0 ≤ a ∧ a < g 254 1 ∧ 0 ≤ b ∧ b < g 254 1 ∧ 0 ≤ c ∧ g 254 0 ≤ c) ∨ (0 ≤ a ∧ a < g 254 1 ∧ 0 ≤ b ∧ b < g 254 1 ∧ 0 ≤ c ∧ c < g 254 0 ∧ d < 0) ∨ (0 ≤ a ∧ a < g 254 1 ∧ 0 ≤ b ∧ b < g 254 1 ∧ 0 ≤ c ∧ c < g 254 0 ∧ 0 ≤ d ∧ 8 ≤ d)) ∧ (o = (cup g 253 2 1, some (0, (-1))))) ∨ ((0 ≤ a ∧ a < g 254 1 ∧ 0 ≤ b ∧ b < g 254 1 ∧ 0 ≤ c ∧ c < g 254 0 ∧ 0 ≤ d ∧ d < 8) ∧ (∃ g_1 r_1, zr sv L n 225 0 (darg 0 [(4, 253), (0, a), (0, b), (0, c), (0, d)]) [] g (g_1, some (0, r_1)) ∧ (o = (cup g_1 253 2 0, some (0, r_1))))) := by
  rw [zov hl0, zov hl1, zov hl2, zov hl3, zov hl4] at h
  have h := zm zy_298 h 5 (q := (6, dset (dset (dset (dset (dset lf 4 (0, d)) 3 (0, c)) 2 (0, b)) 1 (0, a)) 0 (4, 253), [(0, d), (0, c), (0, b), (0, a), (4, 253)], g)) rfl
  dsimp only at h
  obtain ⟨gz1, rz2, hk, h⟩ := zcallI zy_298 h rfl rfl zy_218 zk_218
  dsimp only at hk h
  have hO3 := h
  have h := hk
  clear hk
  have h := zm zy_218 h 2 (q := (2, darg 0 [(4, 253), (0, a), (0, b), (0, c), (0, d)], [(0, a), (4, 253)], g)) rfl
  dsimp only at h
  obtain ⟨gz4, rz5, hk, h⟩ := zcallI zy_218 h rfl rfl zy_208 zk_208
  dsimp only at hk h
  have hO6 := h
  have h := hk
  clear hk
  have h := zm zy_208 h 2 (q := (cond (crel .lt a 0) 18 4, darg 0 [(4, 253), (0, a)], [], g)) rfl
  dsimp only at h
  rcases zif_lt h with ⟨hc7, h⟩ | ⟨hc7, h⟩
  · have h := zm zy_208 h 1 (q := (19, darg 0 [(4, 253), (0, a)], [(0, 0)], g)) rfl
    dsimp only at h
    have h := zret zy_208 h rfl rfl
    obtain ⟨e1, e2⟩ := oI h
    have h := hO6
    rw [e1, e2] at h
    clear e1 e2
    clear hO6
    have h := zm zy_218 h 2 (q := (24, darg 0 [(4, 253), (0, a), (0, b), (0, c), (0, d)], [(0, 0)], g)) rfl
    dsimp only at h
    have h := zret zy_218 h rfl rfl
    obtain ⟨e1, e2⟩ := oI h
    have h := hO3
    rw [e1, e2] at h
    clear e1 e2
    clear hO3
    have h := zm zy_298 h 3 (q := (30, dset (dset (dset (dset (dset lf 4 (0, d)) 3 (0, c)) 2 (0, b)) 1 (0, a)) 0 (4, 253), [(0, 1), (4, 253)], g)) rfl
    dsimp only at h
    obtain ⟨gz8, rz9, hk, h⟩ := zcallI zy_298 h rfl rfl zy_170 zk_170
    dsimp only at hk h
    have hO10 := h
    have h := hk
    clear hk
    have h := zm zy_170 h 4 (q := (6, darg 0 [(4, 253), (0, 1)], [(0, (-1))], cup g 253 2 1)) rfl
    dsimp only at h
    have h := zret zy_170 h rfl rfl
    obtain ⟨e1, e2⟩ := oI h
    have h := hO10
    rw [e1, e2] at h
    clear e1 e2
    clear hO10
    refine Or.inl (⟨Or.inl (hc7), ?_⟩)
    exact zret zy_298 h rfl rfl
  · have h := zm zy_208 h 6 (q := (cond (crel .ge a (g 254 1)) 18 14, darg 0 [(4, 253), (0, a)], [], g)) rfl
    dsimp only at h
    rcases zif_ge h with ⟨hc11, h⟩ | ⟨hc11, h⟩
    · have h := zm zy_208 h 1 (q := (19, darg 0 [(4, 253), (0, a)], [(0, 0)], g)) rfl
      dsimp only at h
      have h := zret zy_208 h rfl rfl
      obtain ⟨e1, e2⟩ := oI h
      have h := hO6
      rw [e1, e2] at h
      clear e1 e2
      clear hO6
      have h := zm zy_218 h 2 (q := (24, darg 0 [(4, 253), (0, a), (0, b), (0, c), (0, d)], [(0, 0)], g)) rfl
      dsimp only at h
      have h := zret zy_218 h rfl rfl
      obtain ⟨e1, e2⟩ := oI h
      have h := hO3
      rw [e1, e2] at h
      clear e1 e2
      clear hO3
      have h := zm zy_298 h 3 (q := (30, dset (dset (dset (dset (dset lf 4 (0, d)) 3 (0, c)) 2 (0, b)) 1 (0, a)) 0 (4, 253), [(0, 1), (4, 253)], g)) rfl
      dsimp only at h
      obtain ⟨gz12, rz13, hk, h⟩ := zcallI zy_298 h rfl rfl zy_170 zk_170
      dsimp only at hk h
      have hO14 := h
      have h := hk
      clear hk
      have h := zm zy_170 h 4 (q := (6, darg 0 [(4, 253), (0, 1)], [(0, (-1))], cup g 253 2 1)) rfl
      dsimp only at h
      have h := zret zy_170 h rfl rfl
      obtain ⟨e1, e2⟩ := oI h
      have h := hO14
      rw [e1, e2] at h
      clear e1 e2
      clear hO14
      refine Or.inl (⟨Or.inr (Or.inl (⟨hc7, hc11⟩)), ?_⟩)
      exact zret zy_298 h rfl rfl
    · have h := zm zy_208 h 2 (q := (19, darg 0 [(4, 253), (0, a)], [(0, 1)], g)) rfl
      dsimp only at h
      have h := zret zy_208 h rfl rfl
      obtain ⟨e1, e2⟩ := oI h
      have h := hO6
      rw [e1, e2] at h
      clear e1 e2
      clear hO6
      have h := zm zy_218 h 5 (q := (13, darg 0 [(4, 253), (0, a), (0, b), (0, c), (0, d)], [(0, d), (0, c), (0, b), (4, 253)], g)) rfl
      dsimp only at h
      obtain ⟨gz15, rz16, hk, h⟩ := zcallI zy_218 h rfl rfl zy_219 zk_219
      dsimp only at hk h
      have hO17 := h
      have h := hk
      clear hk
      have h := zm zy_219 h 2 (q := (2, darg 0 [(4, 253), (0, b), (0, c), (0, d)], [(0, b), (4, 253)], g)) rfl
      dsimp only at h
      obtain ⟨gz18, rz19, hk, h⟩ := zcallI zy_219 h rfl rfl zy_208 zk_208
      dsimp only at hk h
      have hO20 := h
      have h := hk
      clear hk
      have h := zm zy_208 h 2 (q := (cond (crel .lt b 0) 18 4, darg 0 [(4, 253), (0, b)], [], g)) rfl
      dsimp only at h
      rcases zif_lt h with ⟨hc21, h⟩ | ⟨hc21, h⟩
      · have h := zm zy_208 h 1 (q := (19, darg 0 [(4, 253), (0, b)], [(0, 0)], g)) rfl
        dsimp only at h
        have h := zret zy_208 h rfl rfl
        obtain ⟨e1, e2⟩ := oI h
        have h := hO20
        rw [e1, e2] at h
        clear e1 e2
        clear hO20
        have h := zm zy_219 h 2 (q := (28, darg 0 [(4, 253), (0, b), (0, c), (0, d)], [(0, 0)], g)) rfl
        dsimp only at h
        have h := zret zy_219 h rfl rfl
        obtain ⟨e1, e2⟩ := oI h
        have h := hO17
        rw [e1, e2] at h
        clear e1 e2
        clear hO17
        have h := zm zy_218 h 2 (q := (24, darg 0 [(4, 253), (0, a), (0, b), (0, c), (0, d)], [(0, 0)], g)) rfl
        dsimp only at h
        have h := zret zy_218 h rfl rfl
        obtain ⟨e1, e2⟩ := oI h
        have h := hO3
        rw [e1, e2] at h
        clear e1 e2
        clear hO3
        have h := zm zy_298 h 3 (q := (30, dset (dset (dset (dset (dset lf 4 (0, d)) 3 (0, c)) 2 (0, b)) 1 (0, a)) 0 (4, 253), [(0, 1), (4, 253)], g)) rfl
        dsimp only at h
        obtain ⟨gz22, rz23, hk, h⟩ := zcallI zy_298 h rfl rfl zy_170 zk_170
        dsimp only at hk h
        have hO24 := h
        have h := hk
        clear hk
        have h := zm zy_170 h 4 (q := (6, darg 0 [(4, 253), (0, 1)], [(0, (-1))], cup g 253 2 1)) rfl
        dsimp only at h
        have h := zret zy_170 h rfl rfl
        obtain ⟨e1, e2⟩ := oI h
        have h := hO24
        rw [e1, e2] at h
        clear e1 e2
        clear hO24
        refine Or.inl (⟨Or.inr (Or.inr (Or.inl (⟨hc7, hc11, hc21⟩))), ?_⟩)
        exact zret zy_298 h rfl rfl
      · have h := zm zy_208 h 6 (q := (cond (crel .ge b (g 254 1)) 18 14, darg 0 [(4, 253), (0, b)], [], g)) rfl
        dsimp only at h
        rcases zif_ge h with ⟨hc25, h⟩ | ⟨hc25, h⟩
        · have h := zm zy_208 h 1 (q := (19, darg 0 [(4, 253), (0, b)], [(0, 0)], g)) rfl
          dsimp only at h
          have h := zret zy_208 h rfl rfl
          obtain ⟨e1, e2⟩ := oI h
          have h := hO20
          rw [e1, e2] at h
          clear e1 e2
          clear hO20
          have h := zm zy_219 h 2 (q := (28, darg 0 [(4, 253), (0, b), (0, c), (0, d)], [(0, 0)], g)) rfl
          dsimp only at h
          have h := zret zy_219 h rfl rfl
          obtain ⟨e1, e2⟩ := oI h
          have h := hO17
          rw [e1, e2] at h
          clear e1 e2
          clear hO17
          have h := zm zy_218 h 2 (q := (24, darg 0 [(4, 253), (0, a), (0, b), (0, c), (0, d)], [(0, 0)], g)) rfl
          dsimp only at h
          have h := zret zy_218 h rfl rfl
          obtain ⟨e1, e2⟩ := oI h
          have h := hO3
          rw [e1, e2] at h
          clear e1 e2
          clear hO3
          have h := zm zy_298 h 3 (q := (30, dset (dset (dset (dset (dset lf 4 (0, d)) 3 (0, c)) 2 (0, b)) 1 (0, a)) 0 (4, 253), [(0, 1), (4, 253)], g)) rfl
          dsimp only at h
          obtain ⟨gz26, rz27, hk, h⟩ := zcallI zy_298 h rfl rfl zy_170 zk_170
          dsimp only at hk h
          have hO28 := h
          have h := hk
          clear hk
          have h := zm zy_170 h 4 (q := (6, darg 0 [(4, 253), (0, 1)], [(0, (-1))], cup g 253 2 1)) rfl
          dsimp only at h
          have h := zret zy_170 h rfl rfl
          obtain ⟨e1, e2⟩ := oI h
          have h := hO28
          rw [e1, e2] at h
          clear e1 e2
          clear hO28
          refine Or.inl (⟨Or.inr (Or.inr (Or.inr (Or.inl (⟨hc7, hc11, hc21, hc25⟩)))), ?_⟩)
          exact zret zy_298 h rfl rfl
        · have h := zm zy_208 h 2 (q := (19, darg 0 [(4, 253), (0, b)], [(0, 1)], g)) rfl
          dsimp only at h
          have h := zret zy_208 h rfl rfl
          obtain ⟨e1, e2⟩ := oI h
          have h := hO20
          rw [e1, e2] at h
          clear e1 e2
          clear hO20
          have h := zm zy_219 h 3 (q := (10, darg 0 [(4, 253), (0, b), (0, c), (0, d)], [(0, c), (4, 253)], g)) rfl
          dsimp only at h
          obtain ⟨gz29, rz30, hk, h⟩ := zcallI zy_219 h rfl rfl zy_207 zk_207
          dsimp only at hk h
          have hO31 := h
          have h := hk
          clear hk
          have h := zm zy_207 h 2 (q := (cond (crel .lt c 0) 18 4, darg 0 [(4, 253), (0, c)], [], g)) rfl
          dsimp only at h
          rcases zif_lt h with ⟨hc32, h⟩ | ⟨hc32, h⟩
          · have h := zm zy_207 h 1 (q := (19, darg 0 [(4, 253), (0, c)], [(0, 0)], g)) rfl
            dsimp only at h
            have h := zret zy_207 h rfl rfl
            obtain ⟨e1, e2⟩ := oI h
            have h := hO31
            rw [e1, e2] at h
            clear e1 e2
            clear hO31
            have h := zm zy_219 h 2 (q := (28, darg 0 [(4, 253), (0, b), (0, c), (0, d)], [(0, 0)], g)) rfl
            dsimp only at h
            have h := zret zy_219 h rfl rfl
            obtain ⟨e1, e2⟩ := oI h
            have h := hO17
            rw [e1, e2] at h
            clear e1 e2
            clear hO17
            have h := zm zy_218 h 2 (q := (24, darg 0 [(4, 253), (0, a), (0, b), (0, c), (0, d)], [(0, 0)], g)) rfl
            dsimp only at h
            have h := zret zy_218 h rfl rfl
            obtain ⟨e1, e2⟩ := oI h
            have h := hO3
            rw [e1, e2] at h
            clear e1 e2
            clear hO3
            have h := zm zy_298 h 3 (q := (30, dset (dset (dset (dset (dset lf 4 (0, d)) 3 (0, c)) 2 (0, b)) 1 (0, a)) 0 (4, 253), [(0, 1), (4, 253)], g)) rfl
            dsimp only at h
            obtain ⟨gz33, rz34, hk, h⟩ := zcallI zy_298 h rfl rfl zy_170 zk_170
            dsimp only at hk h
            have hO35 := h
            have h := hk
            clear hk
            have h := zm zy_170 h 4 (q := (6, darg 0 [(4, 253), (0, 1)], [(0, (-1))], cup g 253 2 1)) rfl
            dsimp only at h
            have h := zret zy_170 h rfl rfl
            obtain ⟨e1, e2⟩ := oI h
            have h := hO35
            rw [e1, e2] at h
            clear e1 e2
            clear hO35
            refine Or.inl (⟨Or.inr (Or.inr (Or.inr (Or.inr (Or.inl (⟨hc7, hc11, hc21, hc25, hc32⟩))))), ?_⟩)
            exact zret zy_298 h rfl rfl
          · have h := zm zy_207 h 6 (q := (cond (crel .ge c (g 254 0)) 18 14, darg 0 [(4, 253), (0, c)], [], g)) rfl
            dsimp only at h
            rcases zif_ge h with ⟨hc36, h⟩ | ⟨hc36, h⟩
            · have h := zm zy_207 h 1 (q := (19, darg 0 [(4, 253), (0, c)], [(0, 0)], g)) rfl
              dsimp only at h
              have h := zret zy_207 h rfl rfl
              obtain ⟨e1, e2⟩ := oI h
              have h := hO31
              rw [e1, e2] at h
              clear e1 e2
              clear hO31
              have h := zm zy_219 h 2 (q := (28, darg 0 [(4, 253), (0, b), (0, c), (0, d)], [(0, 0)], g)) rfl
              dsimp only at h
              have h := zret zy_219 h rfl rfl
              obtain ⟨e1, e2⟩ := oI h
              have h := hO17
              rw [e1, e2] at h
              clear e1 e2
              clear hO17
              have h := zm zy_218 h 2 (q := (24, darg 0 [(4, 253), (0, a), (0, b), (0, c), (0, d)], [(0, 0)], g)) rfl
              dsimp only at h
              have h := zret zy_218 h rfl rfl
              obtain ⟨e1, e2⟩ := oI h
              have h := hO3
              rw [e1, e2] at h
              clear e1 e2
              clear hO3
              have h := zm zy_298 h 3 (q := (30, dset (dset (dset (dset (dset lf 4 (0, d)) 3 (0, c)) 2 (0, b)) 1 (0, a)) 0 (4, 253), [(0, 1), (4, 253)], g)) rfl
              dsimp only at h
              obtain ⟨gz37, rz38, hk, h⟩ := zcallI zy_298 h rfl rfl zy_170 zk_170
              dsimp only at hk h
              have hO39 := h
              have h := hk
              clear hk
              have h := zm zy_170 h 4 (q := (6, darg 0 [(4, 253), (0, 1)], [(0, (-1))], cup g 253 2 1)) rfl
              dsimp only at h
              have h := zret zy_170 h rfl rfl
              obtain ⟨e1, e2⟩ := oI h
              have h := hO39
              rw [e1, e2] at h
              clear e1 e2
              clear hO39
              refine Or.inl (⟨Or.inr (Or.inr (Or.inr (Or.inr (Or.inr (Or.inl (⟨hc7, hc11, hc21, hc25, hc32, hc36⟩)))))), ?_⟩)
              exact zret zy_298 h rfl rfl
            · have h := zm zy_207 h 2 (q := (19, darg 0 [(4, 253), (0, c)], [(0, 1)], g)) rfl
              dsimp only at h
              have h := zret zy_207 h rfl rfl
              obtain ⟨e1, e2⟩ := oI h
              have h := hO31
              rw [e1, e2] at h
              clear e1 e2
              clear hO31
              have h := zm zy_219 h 2 (q := (17, darg 0 [(4, 253), (0, b), (0, c), (0, d)], [(0, d)], g)) rfl
              dsimp only at h
              obtain ⟨gz40, rz41, hk, h⟩ := zcallI zy_219 h rfl rfl zy_216 zk_216
              dsimp only at hk h
              have hO42 := h
              have h := hk
              clear hk
              have h := zm zy_216 h 2 (q := (cond (crel .lt d 0) 14 4, darg 0 [(0, d)], [], g)) rfl
              dsimp only at h
              rcases zif_lt h with ⟨hc43, h⟩ | ⟨hc43, h⟩
              · have h := zm zy_216 h 1 (q := (15, darg 0 [(0, d)], [(0, 0)], g)) rfl
                dsimp only at h
                have h := zret zy_216 h rfl rfl
                obtain ⟨e1, e2⟩ := oI h
                have h := hO42
                rw [e1, e2] at h
                clear e1 e2
                clear hO42
                have h := zm zy_219 h 2 (q := (28, darg 0 [(4, 253), (0, b), (0, c), (0, d)], [(0, 0)], g)) rfl
                dsimp only at h
                have h := zret zy_219 h rfl rfl
                obtain ⟨e1, e2⟩ := oI h
                have h := hO17
                rw [e1, e2] at h
                clear e1 e2
                clear hO17
                have h := zm zy_218 h 2 (q := (24, darg 0 [(4, 253), (0, a), (0, b), (0, c), (0, d)], [(0, 0)], g)) rfl
                dsimp only at h
                have h := zret zy_218 h rfl rfl
                obtain ⟨e1, e2⟩ := oI h
                have h := hO3
                rw [e1, e2] at h
                clear e1 e2
                clear hO3
                have h := zm zy_298 h 3 (q := (30, dset (dset (dset (dset (dset lf 4 (0, d)) 3 (0, c)) 2 (0, b)) 1 (0, a)) 0 (4, 253), [(0, 1), (4, 253)], g)) rfl
                dsimp only at h
                obtain ⟨gz44, rz45, hk, h⟩ := zcallI zy_298 h rfl rfl zy_170 zk_170
                dsimp only at hk h
                have hO46 := h
                have h := hk
                clear hk
                have h := zm zy_170 h 4 (q := (6, darg 0 [(4, 253), (0, 1)], [(0, (-1))], cup g 253 2 1)) rfl
                dsimp only at h
                have h := zret zy_170 h rfl rfl
                obtain ⟨e1, e2⟩ := oI h
                have h := hO46
                rw [e1, e2] at h
                clear e1 e2
                clear hO46
                refine Or.inl (⟨Or.inr (Or.inr (Or.inr (Or.inr (Or.inr (Or.inr (Or.inl (⟨hc7, hc11, hc21, hc25, hc32, hc36, hc43⟩))))))), ?_⟩)
                exact zret zy_298 h rfl rfl
              · have h := zm zy_216 h 3 (q := (cond (crel .ge d 8) 14 10, darg 0 [(0, d)], [], g)) rfl
                dsimp only at h
                rcases zif_ge h with ⟨hc47, h⟩ | ⟨hc47, h⟩
                · have h := zm zy_216 h 1 (q := (15, darg 0 [(0, d)], [(0, 0)], g)) rfl
                  dsimp only at h
                  have h := zret zy_216 h rfl rfl
                  obtain ⟨e1, e2⟩ := oI h
                  have h := hO42
                  rw [e1, e2] at h
                  clear e1 e2
                  clear hO42
                  have h := zm zy_219 h 2 (q := (28, darg 0 [(4, 253), (0, b), (0, c), (0, d)], [(0, 0)], g)) rfl
                  dsimp only at h
                  have h := zret zy_219 h rfl rfl
                  obtain ⟨e1, e2⟩ := oI h
                  have h := hO17
                  rw [e1, e2] at h
                  clear e1 e2
                  clear hO17
                  have h := zm zy_218 h 2 (q := (24, darg 0 [(4, 253), (0, a), (0, b), (0, c), (0, d)], [(0, 0)], g)) rfl
                  dsimp only at h
                  have h := zret zy_218 h rfl rfl
                  obtain ⟨e1, e2⟩ := oI h
                  have h := hO3
                  rw [e1, e2] at h
                  clear e1 e2
                  clear hO3
                  have h := zm zy_298 h 3 (q := (30, dset (dset (dset (dset (dset lf 4 (0, d)) 3 (0, c)) 2 (0, b)) 1 (0, a)) 0 (4, 253), [(0, 1), (4, 253)], g)) rfl
                  dsimp only at h
                  obtain ⟨gz48, rz49, hk, h⟩ := zcallI zy_298 h rfl rfl zy_170 zk_170
                  dsimp only at hk h
                  have hO50 := h
                  have h := hk
                  clear hk
                  have h := zm zy_170 h 4 (q := (6, darg 0 [(4, 253), (0, 1)], [(0, (-1))], cup g 253 2 1)) rfl
                  dsimp only at h
                  have h := zret zy_170 h rfl rfl
                  obtain ⟨e1, e2⟩ := oI h
                  have h := hO50
                  rw [e1, e2] at h
                  clear e1 e2
                  clear hO50
                  refine Or.inl (⟨Or.inr (Or.inr (Or.inr (Or.inr (Or.inr (Or.inr (Or.inr (⟨hc7, hc11, hc21, hc25, hc32, hc36, hc43, hc47⟩))))))), ?_⟩)
                  exact zret zy_298 h rfl rfl
                · have h := zm zy_216 h 2 (q := (15, darg 0 [(0, d)], [(0, 1)], g)) rfl
                  dsimp only at h
                  have h := zret zy_216 h rfl rfl
                  obtain ⟨e1, e2⟩ := oI h
                  have h := hO42
                  rw [e1, e2] at h
                  clear e1 e2
                  clear hO42
                  have h := zm zy_219 h 3 (q := (28, darg 0 [(4, 253), (0, b), (0, c), (0, d)], [(0, 1)], g)) rfl
                  dsimp only at h
                  have h := zret zy_219 h rfl rfl
                  obtain ⟨e1, e2⟩ := oI h
                  have h := hO17
                  rw [e1, e2] at h
                  clear e1 e2
                  clear hO17
                  have h := zm zy_218 h 3 (q := (24, darg 0 [(4, 253), (0, a), (0, b), (0, c), (0, d)], [(0, 1)], g)) rfl
                  dsimp only at h
                  have h := zret zy_218 h rfl rfl
                  obtain ⟨e1, e2⟩ := oI h
                  have h := hO3
                  rw [e1, e2] at h
                  clear e1 e2
                  clear hO3
                  have h := zm zy_298 h 7 (q := (19, dset (dset (dset (dset (dset lf 4 (0, d)) 3 (0, c)) 2 (0, b)) 1 (0, a)) 0 (4, 253), [(0, d), (0, c), (0, b), (0, a), (4, 253), (4, 253)], g)) rfl
                  dsimp only at h
                  obtain ⟨g_1, r_1, hk, h⟩ := zcallI zy_298 h rfl rfl zy_225 zk_225
                  dsimp only at hk h
                  refine Or.inr (⟨⟨hc7, hc11, hc21, hc25, hc32, hc36, hc43, hc47⟩, ?_⟩)
                  refine ⟨g_1, r_1, hk, ?_⟩
                  obtain ⟨gz51, rz52, hk, h⟩ := zcallI zy_298 h rfl rfl zy_192 zk_192
                  dsimp only at hk h
                  have hO53 := h
                  have h := hk
                  clear hk
                  have h := zm zy_192 h 4 (q := (6, darg 0 [(4, 253), (0, r_1)], [(0, r_1)], cup g_1 253 2 0)) rfl
                  dsimp only at h
                  have h := zret zy_192 h rfl rfl
                  obtain ⟨e1, e2⟩ := oI h
                  have h := hO53
                  rw [e1, e2] at h
                  clear e1 e2
                  clear hO53
                  have h := zm zy_298 h 1 (q := (33, dset (dset (dset (dset (dset lf 4 (0, d)) 3 (0, c)) 2 (0, b)) 1 (0, a)) 0 (4, 253), [(0, r_1)], cup g_1 253 2 0)) rfl
                  dsimp only at h
                  exact zret zy_298 h rfl rfl
theorem t_a_fee {sv : Nat → Int32} {L n : Nat} {lf : dlf} {g : cg} {o : cg × Option cv} {a b c d : Int} (h : zr sv L n 295 0 lf [] g o) (hl0 : lf 0 = (4, 0)) (hl1 : lf 1 = (0, a)) (hl2 : lf 2 = (0, b)) (hl3 : lf 3 = (0, c)) (hl4 : lf 4 = (0, d)) : ∃ g_1 r_1, zr sv L n 89 0 (darg 0 [(4, 0), (0, a), (0, b), (0, c), (0, d)]) [] g (g_1, some (0, r_1)) ∧ (((r_1 = 0) ∧ (o = (cup g_1 0 0 1, some (0, (-1))))) ∨ ((r_1 ≠ 0) ∧ (∃ g_2 r_2, zr sv L n 96 0 (darg 0 [(4, 92), (0, c), (0, d)]) [] g_1 (g_2, some (0, r_2)) ∧ (o = (cup g_2 0 0 0, some (0, r_2)))))) := by
  rw [zov hl0, zov hl1, zov hl2, zov hl3, zov hl4] at h
  have h := zm zy_295 h 5 (q := (6, dset (dset (dset (dset (dset lf 4 (0, d)) 3 (0, c)) 2 (0, b)) 1 (0, a)) 0 (4, 0), [(0, d), (0, c), (0, b), (0, a), (4, 0)], g)) rfl
  dsimp only at h
  obtain ⟨g_1, r_1, hk, h⟩ := zcallI zy_295 h rfl rfl zy_89 zk_89
  dsimp only at hk h
  refine ⟨g_1, r_1, hk, ?_⟩
  have h := zm zy_295 h 1 (q := (cond (crel .eq r_1 0) 29 12, dset (dset (dset (dset (dset lf 4 (0, d)) 3 (0, c)) 2 (0, b)) 1 (0, a)) 0 (4, 0), [], g_1)) rfl
  dsimp only at h
  rcases zif_eq h with ⟨hc1, h⟩ | ⟨hc1, h⟩
  · have h := zm zy_295 h 2 (q := (31, dset (dset (dset (dset (dset lf 4 (0, d)) 3 (0, c)) 2 (0, b)) 1 (0, a)) 0 (4, 0), [(0, 1), (4, 0)], g_1)) rfl
    dsimp only at h
    obtain ⟨gz2, rz3, hk, h⟩ := zcallI zy_295 h rfl rfl zy_29 zk_29
    dsimp only at hk h
    have hO4 := h
    have h := hk
    clear hk
    have h := zm zy_29 h 4 (q := (6, darg 0 [(4, 0), (0, 1)], [(0, (-1))], cup g_1 0 0 1)) rfl
    dsimp only at h
    have h := zret zy_29 h rfl rfl
    obtain ⟨e1, e2⟩ := oI h
    have h := hO4
    rw [e1, e2] at h
    clear e1 e2
    clear hO4
    refine Or.inl (⟨hc1, ?_⟩)
    exact zret zy_295 h rfl rfl
  · have h := zm zy_295 h 5 (q := (20, dset (dset (dset (dset (dset lf 4 (0, d)) 3 (0, c)) 2 (0, b)) 1 (0, a)) 0 (4, 0), [(0, d), (0, c), (4, 92), (4, 0)], g_1)) rfl
    dsimp only at h
    obtain ⟨g_2, r_2, hk, h⟩ := zcallI zy_295 h rfl rfl zy_96 zk_96
    dsimp only at hk h
    refine Or.inr (⟨hc1, ?_⟩)
    refine ⟨g_2, r_2, hk, ?_⟩
    obtain ⟨gz5, rz6, hk, h⟩ := zcallI zy_295 h rfl rfl zy_64 zk_64
    dsimp only at hk h
    have hO7 := h
    have h := hk
    clear hk
    have h := zm zy_64 h 4 (q := (6, darg 0 [(4, 0), (0, r_2)], [(0, r_2)], cup g_2 0 0 0)) rfl
    dsimp only at h
    have h := zret zy_64 h rfl rfl
    obtain ⟨e1, e2⟩ := oI h
    have h := hO7
    rw [e1, e2] at h
    clear e1 e2
    clear hO7
    have h := zm zy_295 h 1 (q := (34, dset (dset (dset (dset (dset lf 4 (0, d)) 3 (0, c)) 2 (0, b)) 1 (0, a)) 0 (4, 0), [(0, r_2)], cup g_2 0 0 0)) rfl
    dsimp only at h
    exact zret zy_295 h rfl rfl
theorem m_a_fee {sv : Nat → Int32} {L n : Nat} {lf : dlf} {g : cg} {o : cg × Option cv} {a b c d : Int} (h : zr sv L n 296 0 lf [] g o) (hl0 : lf 0 = (4, 253)) (hl1 : lf 1 = (0, a)) (hl2 : lf 2 = (0, b)) (hl3 : lf 3 = (0, c)) (hl4 : lf 4 = (0, d)) : (((a < 0) ∨ (0 ≤ a ∧ g 254 1 ≤ a) ∨ (0 ≤ a ∧ a < g 254 1 ∧ b < 0) ∨ (0 ≤ a ∧ a < g 254 1 ∧ 0 ≤ b ∧ g 254 1 ≤ b) ∨ (0 ≤ a ∧ a < g 254 1 ∧ 0 ≤ b ∧ b < g 254 1 ∧ c < 0) ∨ (0 ≤ a ∧ a < g 254 1 ∧ 0 ≤ b ∧ b < g 254 1 ∧ 0 ≤ c ∧ g 254 0 ≤ c) ∨ (0 ≤ a ∧ a < g 254 1 ∧ 0 ≤ b ∧ b < g 254 1 ∧ 0 ≤ c ∧ c < g 254 0 ∧ d < 0) ∨ (0 ≤ a ∧ a < g 254 1 ∧ 0 ≤ b ∧ b < g 254 1 ∧ 0 ≤ c ∧ c < g 254 0 ∧ 0 ≤ d ∧ 8 ≤ d)) ∧ (o = (cup g 253 2 1, some (0, (-1))))) ∨ ((0 ≤ a ∧ a < g 254 1 ∧ 0 ≤ b ∧ b < g 254 1 ∧ 0 ≤ c ∧ c < g 254 0 ∧ 0 ≤ d ∧ d < 8) ∧ (∃ g_1 r_1, zr sv L n 224 0 (darg 0 [(4, 253), (0, a), (0, b), (0, c), (0, d)]) [] g (g_1, some (0, r_1)) ∧ (o = (cup g_1 253 2 0, some (0, r_1))))) := by
  rw [zov hl0, zov hl1, zov hl2, zov hl3, zov hl4] at h
  have h := zm zy_296 h 5 (q := (6, dset (dset (dset (dset (dset lf 4 (0, d)) 3 (0, c)) 2 (0, b)) 1 (0, a)) 0 (4, 253), [(0, d), (0, c), (0, b), (0, a), (4, 253)], g)) rfl
  dsimp only at h
  obtain ⟨gz1, rz2, hk, h⟩ := zcallI zy_296 h rfl rfl zy_218 zk_218
  dsimp only at hk h
  have hO3 := h
  have h := hk
  clear hk
  have h := zm zy_218 h 2 (q := (2, darg 0 [(4, 253), (0, a), (0, b), (0, c), (0, d)], [(0, a), (4, 253)], g)) rfl
  dsimp only at h
  obtain ⟨gz4, rz5, hk, h⟩ := zcallI zy_218 h rfl rfl zy_208 zk_208
  dsimp only at hk h
  have hO6 := h
  have h := hk
  clear hk
  have h := zm zy_208 h 2 (q := (cond (crel .lt a 0) 18 4, darg 0 [(4, 253), (0, a)], [], g)) rfl
  dsimp only at h
  rcases zif_lt h with ⟨hc7, h⟩ | ⟨hc7, h⟩
  · have h := zm zy_208 h 1 (q := (19, darg 0 [(4, 253), (0, a)], [(0, 0)], g)) rfl
    dsimp only at h
    have h := zret zy_208 h rfl rfl
    obtain ⟨e1, e2⟩ := oI h
    have h := hO6
    rw [e1, e2] at h
    clear e1 e2
    clear hO6
    have h := zm zy_218 h 2 (q := (24, darg 0 [(4, 253), (0, a), (0, b), (0, c), (0, d)], [(0, 0)], g)) rfl
    dsimp only at h
    have h := zret zy_218 h rfl rfl
    obtain ⟨e1, e2⟩ := oI h
    have h := hO3
    rw [e1, e2] at h
    clear e1 e2
    clear hO3
    have h := zm zy_296 h 3 (q := (30, dset (dset (dset (dset (dset lf 4 (0, d)) 3 (0, c)) 2 (0, b)) 1 (0, a)) 0 (4, 253), [(0, 1), (4, 253)], g)) rfl
    dsimp only at h
    obtain ⟨gz8, rz9, hk, h⟩ := zcallI zy_296 h rfl rfl zy_170 zk_170
    dsimp only at hk h
    have hO10 := h
    have h := hk
    clear hk
    have h := zm zy_170 h 4 (q := (6, darg 0 [(4, 253), (0, 1)], [(0, (-1))], cup g 253 2 1)) rfl
    dsimp only at h
    have h := zret zy_170 h rfl rfl
    obtain ⟨e1, e2⟩ := oI h
    have h := hO10
    rw [e1, e2] at h
    clear e1 e2
    clear hO10
    refine Or.inl (⟨Or.inl (hc7), ?_⟩)
    exact zret zy_296 h rfl rfl
  · have h := zm zy_208 h 6 (q := (cond (crel .ge a (g 254 1)) 18 14, darg 0 [(4, 253), (0, a)], [], g)) rfl
    dsimp only at h
    rcases zif_ge h with ⟨hc11, h⟩ | ⟨hc11, h⟩
    · have h := zm zy_208 h 1 (q := (19, darg 0 [(4, 253), (0, a)], [(0, 0)], g)) rfl
      dsimp only at h
      have h := zret zy_208 h rfl rfl
      obtain ⟨e1, e2⟩ := oI h
      have h := hO6
      rw [e1, e2] at h
      clear e1 e2
      clear hO6
      have h := zm zy_218 h 2 (q := (24, darg 0 [(4, 253), (0, a), (0, b), (0, c), (0, d)], [(0, 0)], g)) rfl
      dsimp only at h
      have h := zret zy_218 h rfl rfl
      obtain ⟨e1, e2⟩ := oI h
      have h := hO3
      rw [e1, e2] at h
      clear e1 e2
      clear hO3
      have h := zm zy_296 h 3 (q := (30, dset (dset (dset (dset (dset lf 4 (0, d)) 3 (0, c)) 2 (0, b)) 1 (0, a)) 0 (4, 253), [(0, 1), (4, 253)], g)) rfl
      dsimp only at h
      obtain ⟨gz12, rz13, hk, h⟩ := zcallI zy_296 h rfl rfl zy_170 zk_170
      dsimp only at hk h
      have hO14 := h
      have h := hk
      clear hk
      have h := zm zy_170 h 4 (q := (6, darg 0 [(4, 253), (0, 1)], [(0, (-1))], cup g 253 2 1)) rfl
      dsimp only at h
      have h := zret zy_170 h rfl rfl
      obtain ⟨e1, e2⟩ := oI h
      have h := hO14
      rw [e1, e2] at h
      clear e1 e2
      clear hO14
      refine Or.inl (⟨Or.inr (Or.inl (⟨hc7, hc11⟩)), ?_⟩)
      exact zret zy_296 h rfl rfl
    · have h := zm zy_208 h 2 (q := (19, darg 0 [(4, 253), (0, a)], [(0, 1)], g)) rfl
      dsimp only at h
      have h := zret zy_208 h rfl rfl
      obtain ⟨e1, e2⟩ := oI h
      have h := hO6
      rw [e1, e2] at h
      clear e1 e2
      clear hO6
      have h := zm zy_218 h 5 (q := (13, darg 0 [(4, 253), (0, a), (0, b), (0, c), (0, d)], [(0, d), (0, c), (0, b), (4, 253)], g)) rfl
      dsimp only at h
      obtain ⟨gz15, rz16, hk, h⟩ := zcallI zy_218 h rfl rfl zy_219 zk_219
      dsimp only at hk h
      have hO17 := h
      have h := hk
      clear hk
      have h := zm zy_219 h 2 (q := (2, darg 0 [(4, 253), (0, b), (0, c), (0, d)], [(0, b), (4, 253)], g)) rfl
      dsimp only at h
      obtain ⟨gz18, rz19, hk, h⟩ := zcallI zy_219 h rfl rfl zy_208 zk_208
      dsimp only at hk h
      have hO20 := h
      have h := hk
      clear hk
      have h := zm zy_208 h 2 (q := (cond (crel .lt b 0) 18 4, darg 0 [(4, 253), (0, b)], [], g)) rfl
      dsimp only at h
      rcases zif_lt h with ⟨hc21, h⟩ | ⟨hc21, h⟩
      · have h := zm zy_208 h 1 (q := (19, darg 0 [(4, 253), (0, b)], [(0, 0)], g)) rfl
        dsimp only at h
        have h := zret zy_208 h rfl rfl
        obtain ⟨e1, e2⟩ := oI h
        have h := hO20
        rw [e1, e2] at h
        clear e1 e2
        clear hO20
        have h := zm zy_219 h 2 (q := (28, darg 0 [(4, 253), (0, b), (0, c), (0, d)], [(0, 0)], g)) rfl
        dsimp only at h
        have h := zret zy_219 h rfl rfl
        obtain ⟨e1, e2⟩ := oI h
        have h := hO17
        rw [e1, e2] at h
        clear e1 e2
        clear hO17
        have h := zm zy_218 h 2 (q := (24, darg 0 [(4, 253), (0, a), (0, b), (0, c), (0, d)], [(0, 0)], g)) rfl
        dsimp only at h
        have h := zret zy_218 h rfl rfl
        obtain ⟨e1, e2⟩ := oI h
        have h := hO3
        rw [e1, e2] at h
        clear e1 e2
        clear hO3
        have h := zm zy_296 h 3 (q := (30, dset (dset (dset (dset (dset lf 4 (0, d)) 3 (0, c)) 2 (0, b)) 1 (0, a)) 0 (4, 253), [(0, 1), (4, 253)], g)) rfl
        dsimp only at h
        obtain ⟨gz22, rz23, hk, h⟩ := zcallI zy_296 h rfl rfl zy_170 zk_170
        dsimp only at hk h
        have hO24 := h
        have h := hk
        clear hk
        have h := zm zy_170 h 4 (q := (6, darg 0 [(4, 253), (0, 1)], [(0, (-1))], cup g 253 2 1)) rfl
        dsimp only at h
        have h := zret zy_170 h rfl rfl
        obtain ⟨e1, e2⟩ := oI h
        have h := hO24
        rw [e1, e2] at h
        clear e1 e2
        clear hO24
        refine Or.inl (⟨Or.inr (Or.inr (Or.inl (⟨hc7, hc11, hc21⟩))), ?_⟩)
        exact zret zy_296 h rfl rfl
      · have h := zm zy_208 h 6 (q := (cond (crel .ge b (g 254 1)) 18 14, darg 0 [(4, 253), (0, b)], [], g)) rfl
        dsimp only at h
        rcases zif_ge h with ⟨hc25, h⟩ | ⟨hc25, h⟩
        · have h := zm zy_208 h 1 (q := (19, darg 0 [(4, 253), (0, b)], [(0, 0)], g)) rfl
          dsimp only at h
          have h := zret zy_208 h rfl rfl
          obtain ⟨e1, e2⟩ := oI h
          have h := hO20
          rw [e1, e2] at h
          clear e1 e2
          clear hO20
          have h := zm zy_219 h 2 (q := (28, darg 0 [(4, 253), (0, b), (0, c), (0, d)], [(0, 0)], g)) rfl
          dsimp only at h
          have h := zret zy_219 h rfl rfl
          obtain ⟨e1, e2⟩ := oI h
          have h := hO17
          rw [e1, e2] at h
          clear e1 e2
          clear hO17
          have h := zm zy_218 h 2 (q := (24, darg 0 [(4, 253), (0, a), (0, b), (0, c), (0, d)], [(0, 0)], g)) rfl
          dsimp only at h
          have h := zret zy_218 h rfl rfl
          obtain ⟨e1, e2⟩ := oI h
          have h := hO3
          rw [e1, e2] at h
          clear e1 e2
          clear hO3
          have h := zm zy_296 h 3 (q := (30, dset (dset (dset (dset (dset lf 4 (0, d)) 3 (0, c)) 2 (0, b)) 1 (0, a)) 0 (4, 253), [(0, 1), (4, 253)], g)) rfl
          dsimp only at h
          obtain ⟨gz26, rz27, hk, h⟩ := zcallI zy_296 h rfl rfl zy_170 zk_170
          dsimp only at hk h
          have hO28 := h
          have h := hk
          clear hk
          have h := zm zy_170 h 4 (q := (6, darg 0 [(4, 253), (0, 1)], [(0, (-1))], cup g 253 2 1)) rfl
          dsimp only at h
          have h := zret zy_170 h rfl rfl
          obtain ⟨e1, e2⟩ := oI h
          have h := hO28
          rw [e1, e2] at h
          clear e1 e2
          clear hO28
          refine Or.inl (⟨Or.inr (Or.inr (Or.inr (Or.inl (⟨hc7, hc11, hc21, hc25⟩)))), ?_⟩)
          exact zret zy_296 h rfl rfl
        · have h := zm zy_208 h 2 (q := (19, darg 0 [(4, 253), (0, b)], [(0, 1)], g)) rfl
          dsimp only at h
          have h := zret zy_208 h rfl rfl
          obtain ⟨e1, e2⟩ := oI h
          have h := hO20
          rw [e1, e2] at h
          clear e1 e2
          clear hO20
          have h := zm zy_219 h 3 (q := (10, darg 0 [(4, 253), (0, b), (0, c), (0, d)], [(0, c), (4, 253)], g)) rfl
          dsimp only at h
          obtain ⟨gz29, rz30, hk, h⟩ := zcallI zy_219 h rfl rfl zy_207 zk_207
          dsimp only at hk h
          have hO31 := h
          have h := hk
          clear hk
          have h := zm zy_207 h 2 (q := (cond (crel .lt c 0) 18 4, darg 0 [(4, 253), (0, c)], [], g)) rfl
          dsimp only at h
          rcases zif_lt h with ⟨hc32, h⟩ | ⟨hc32, h⟩
          · have h := zm zy_207 h 1 (q := (19, darg 0 [(4, 253), (0, c)], [(0, 0)], g)) rfl
            dsimp only at h
            have h := zret zy_207 h rfl rfl
            obtain ⟨e1, e2⟩ := oI h
            have h := hO31
            rw [e1, e2] at h
            clear e1 e2
            clear hO31
            have h := zm zy_219 h 2 (q := (28, darg 0 [(4, 253), (0, b), (0, c), (0, d)], [(0, 0)], g)) rfl
            dsimp only at h
            have h := zret zy_219 h rfl rfl
            obtain ⟨e1, e2⟩ := oI h
            have h := hO17
            rw [e1, e2] at h
            clear e1 e2
            clear hO17
            have h := zm zy_218 h 2 (q := (24, darg 0 [(4, 253), (0, a), (0, b), (0, c), (0, d)], [(0, 0)], g)) rfl
            dsimp only at h
            have h := zret zy_218 h rfl rfl
            obtain ⟨e1, e2⟩ := oI h
            have h := hO3
            rw [e1, e2] at h
            clear e1 e2
            clear hO3
            have h := zm zy_296 h 3 (q := (30, dset (dset (dset (dset (dset lf 4 (0, d)) 3 (0, c)) 2 (0, b)) 1 (0, a)) 0 (4, 253), [(0, 1), (4, 253)], g)) rfl
            dsimp only at h
            obtain ⟨gz33, rz34, hk, h⟩ := zcallI zy_296 h rfl rfl zy_170 zk_170
            dsimp only at hk h
            have hO35 := h
            have h := hk
            clear hk
            have h := zm zy_170 h 4 (q := (6, darg 0 [(4, 253), (0, 1)], [(0, (-1))], cup g 253 2 1)) rfl
            dsimp only at h
            have h := zret zy_170 h rfl rfl
            obtain ⟨e1, e2⟩ := oI h
            have h := hO35
            rw [e1, e2] at h
            clear e1 e2
            clear hO35
            refine Or.inl (⟨Or.inr (Or.inr (Or.inr (Or.inr (Or.inl (⟨hc7, hc11, hc21, hc25, hc32⟩))))), ?_⟩)
            exact zret zy_296 h rfl rfl
          · have h := zm zy_207 h 6 (q := (cond (crel .ge c (g 254 0)) 18 14, darg 0 [(4, 253), (0, c)], [], g)) rfl
            dsimp only at h
            rcases zif_ge h with ⟨hc36, h⟩ | ⟨hc36, h⟩
            · have h := zm zy_207 h 1 (q := (19, darg 0 [(4, 253), (0, c)], [(0, 0)], g)) rfl
              dsimp only at h
              have h := zret zy_207 h rfl rfl
              obtain ⟨e1, e2⟩ := oI h
              have h := hO31
              rw [e1, e2] at h
              clear e1 e2
              clear hO31
              have h := zm zy_219 h 2 (q := (28, darg 0 [(4, 253), (0, b), (0, c), (0, d)], [(0, 0)], g)) rfl
              dsimp only at h
              have h := zret zy_219 h rfl rfl
              obtain ⟨e1, e2⟩ := oI h
              have h := hO17
              rw [e1, e2] at h
              clear e1 e2
              clear hO17
              have h := zm zy_218 h 2 (q := (24, darg 0 [(4, 253), (0, a), (0, b), (0, c), (0, d)], [(0, 0)], g)) rfl
              dsimp only at h
              have h := zret zy_218 h rfl rfl
              obtain ⟨e1, e2⟩ := oI h
              have h := hO3
              rw [e1, e2] at h
              clear e1 e2
              clear hO3
              have h := zm zy_296 h 3 (q := (30, dset (dset (dset (dset (dset lf 4 (0, d)) 3 (0, c)) 2 (0, b)) 1 (0, a)) 0 (4, 253), [(0, 1), (4, 253)], g)) rfl
              dsimp only at h
              obtain ⟨gz37, rz38, hk, h⟩ := zcallI zy_296 h rfl rfl zy_170 zk_170
              dsimp only at hk h
              have hO39 := h
              have h := hk
              clear hk
              have h := zm zy_170 h 4 (q := (6, darg 0 [(4, 253), (0, 1)], [(0, (-1))], cup g 253 2 1)) rfl
              dsimp only at h
              have h := zret zy_170 h rfl rfl
              obtain ⟨e1, e2⟩ := oI h
              have h := hO39
              rw [e1, e2] at h
              clear e1 e2
              clear hO39
              refine Or.inl (⟨Or.inr (Or.inr (Or.inr (Or.inr (Or.inr (Or.inl (⟨hc7, hc11, hc21, hc25, hc32, hc36⟩)))))), ?_⟩)
              exact zret zy_296 h rfl rfl
            · have h := zm zy_207 h 2 (q := (19, darg 0 [(4, 253), (0, c)], [(0, 1)], g)) rfl
              dsimp only at h
              have h := zret zy_207 h rfl rfl
              obtain ⟨e1, e2⟩ := oI h
              have h := hO31
              rw [e1, e2] at h
              clear e1 e2
              clear hO31
              have h := zm zy_219 h 2 (q := (17, darg 0 [(4, 253), (0, b), (0, c), (0, d)], [(0, d)], g)) rfl
              dsimp only at h
              obtain ⟨gz40, rz41, hk, h⟩ := zcallI zy_219 h rfl rfl zy_216 zk_216
              dsimp only at hk h
              have hO42 := h
              have h := hk
              clear hk
              have h := zm zy_216 h 2 (q := (cond (crel .lt d 0) 14 4, darg 0 [(0, d)], [], g)) rfl
              dsimp only at h
              rcases zif_lt h with ⟨hc43, h⟩ | ⟨hc43, h⟩
              · have h := zm zy_216 h 1 (q := (15, darg 0 [(0, d)], [(0, 0)], g)) rfl
                dsimp only at h
                have h := zret zy_216 h rfl rfl
                obtain ⟨e1, e2⟩ := oI h
                have h := hO42
                rw [e1, e2] at h
                clear e1 e2
                clear hO42
                have h := zm zy_219 h 2 (q := (28, darg 0 [(4, 253), (0, b), (0, c), (0, d)], [(0, 0)], g)) rfl
                dsimp only at h
                have h := zret zy_219 h rfl rfl
                obtain ⟨e1, e2⟩ := oI h
                have h := hO17
                rw [e1, e2] at h
                clear e1 e2
                clear hO17
                have h := zm zy_218 h 2 (q := (24, darg 0 [(4, 253), (0, a), (0, b), (0, c), (0, d)], [(0, 0)], g)) rfl
                dsimp only at h
                have h := zret zy_218 h rfl rfl
                obtain ⟨e1, e2⟩ := oI h
                have h := hO3
                rw [e1, e2] at h
                clear e1 e2
                clear hO3
                have h := zm zy_296 h 3 (q := (30, dset (dset (dset (dset (dset lf 4 (0, d)) 3 (0, c)) 2 (0, b)) 1 (0, a)) 0 (4, 253), [(0, 1), (4, 253)], g)) rfl
                dsimp only at h
                obtain ⟨gz44, rz45, hk, h⟩ := zcallI zy_296 h rfl rfl zy_170 zk_170
                dsimp only at hk h
                have hO46 := h
                have h := hk
                clear hk
                have h := zm zy_170 h 4 (q := (6, darg 0 [(4, 253), (0, 1)], [(0, (-1))], cup g 253 2 1)) rfl
                dsimp only at h
                have h := zret zy_170 h rfl rfl
                obtain ⟨e1, e2⟩ := oI h
                have h := hO46
                rw [e1, e2] at h
                clear e1 e2
                clear hO46
                refine Or.inl (⟨Or.inr (Or.inr (Or.inr (Or.inr (Or.inr (Or.inr (Or.inl (⟨hc7, hc11, hc21, hc25, hc32, hc36, hc43⟩))))))), ?_⟩)
                exact zret zy_296 h rfl rfl
              · have h := zm zy_216 h 3 (q := (cond (crel .ge d 8) 14 10, darg 0 [(0, d)], [], g)) rfl
                dsimp only at h
                rcases zif_ge h with ⟨hc47, h⟩ | ⟨hc47, h⟩
                · have h := zm zy_216 h 1 (q := (15, darg 0 [(0, d)], [(0, 0)], g)) rfl
                  dsimp only at h
                  have h := zret zy_216 h rfl rfl
                  obtain ⟨e1, e2⟩ := oI h
                  have h := hO42
                  rw [e1, e2] at h
                  clear e1 e2
                  clear hO42
                  have h := zm zy_219 h 2 (q := (28, darg 0 [(4, 253), (0, b), (0, c), (0, d)], [(0, 0)], g)) rfl
                  dsimp only at h
                  have h := zret zy_219 h rfl rfl
                  obtain ⟨e1, e2⟩ := oI h
                  have h := hO17
                  rw [e1, e2] at h
                  clear e1 e2
                  clear hO17
                  have h := zm zy_218 h 2 (q := (24, darg 0 [(4, 253), (0, a), (0, b), (0, c), (0, d)], [(0, 0)], g)) rfl
                  dsimp only at h
                  have h := zret zy_218 h rfl rfl
                  obtain ⟨e1, e2⟩ := oI h
                  have h := hO3
                  rw [e1, e2] at h
                  clear e1 e2
                  clear hO3
                  have h := zm zy_296 h 3 (q := (30, dset (dset (dset (dset (dset lf 4 (0, d)) 3 (0, c)) 2 (0, b)) 1 (0, a)) 0 (4, 253), [(0, 1), (4, 253)], g)) rfl
                  dsimp only at h
                  obtain ⟨gz48, rz49, hk, h⟩ := zcallI zy_296 h rfl rfl zy_170 zk_170
                  dsimp only at hk h
                  have hO50 := h
                  have h := hk
                  clear hk
                  have h := zm zy_170 h 4 (q := (6, darg 0 [(4, 253), (0, 1)], [(0, (-1))], cup g 253 2 1)) rfl
                  dsimp only at h
                  have h := zret zy_170 h rfl rfl
                  obtain ⟨e1, e2⟩ := oI h
                  have h := hO50
                  rw [e1, e2] at h
                  clear e1 e2
                  clear hO50
                  refine Or.inl (⟨Or.inr (Or.inr (Or.inr (Or.inr (Or.inr (Or.inr (Or.inr (⟨hc7, hc11, hc21, hc25, hc32, hc36, hc43, hc47⟩))))))), ?_⟩)
                  exact zret zy_296 h rfl rfl
                · have h := zm zy_216 h 2 (q := (15, darg 0 [(0, d)], [(0, 1)], g)) rfl
                  dsimp only at h
                  have h := zret zy_216 h rfl rfl
                  obtain ⟨e1, e2⟩ := oI h
                  have h := hO42
                  rw [e1, e2] at h
                  clear e1 e2
                  clear hO42
                  have h := zm zy_219 h 3 (q := (28, darg 0 [(4, 253), (0, b), (0, c), (0, d)], [(0, 1)], g)) rfl
                  dsimp only at h
                  have h := zret zy_219 h rfl rfl
                  obtain ⟨e1, e2⟩ := oI h
                  have h := hO17
                  rw [e1, e2] at h
                  clear e1 e2
                  clear hO17
                  have h := zm zy_218 h 3 (q := (24, darg 0 [(4, 253), (0, a), (0, b), (0, c), (0, d)], [(0, 1)], g)) rfl
                  dsimp only at h
                  have h := zret zy_218 h rfl rfl
                  obtain ⟨e1, e2⟩ := oI h
                  have h := hO3
                  rw [e1, e2] at h
                  clear e1 e2
                  clear hO3
                  have h := zm zy_296 h 7 (q := (19, dset (dset (dset (dset (dset lf 4 (0, d)) 3 (0, c)) 2 (0, b)) 1 (0, a)) 0 (4, 253), [(0, d), (0, c), (0, b), (0, a), (4, 253), (4, 253)], g)) rfl
                  dsimp only at h
                  obtain ⟨g_1, r_1, hk, h⟩ := zcallI zy_296 h rfl rfl zy_224 zk_224
                  dsimp only at hk h
                  refine Or.inr (⟨⟨hc7, hc11, hc21, hc25, hc32, hc36, hc43, hc47⟩, ?_⟩)
                  refine ⟨g_1, r_1, hk, ?_⟩
                  obtain ⟨gz51, rz52, hk, h⟩ := zcallI zy_296 h rfl rfl zy_192 zk_192
                  dsimp only at hk h
                  have hO53 := h
                  have h := hk
                  clear hk
                  have h := zm zy_192 h 4 (q := (6, darg 0 [(4, 253), (0, r_1)], [(0, r_1)], cup g_1 253 2 0)) rfl
                  dsimp only at h
                  have h := zret zy_192 h rfl rfl
                  obtain ⟨e1, e2⟩ := oI h
                  have h := hO53
                  rw [e1, e2] at h
                  clear e1 e2
                  clear hO53
                  have h := zm zy_296 h 1 (q := (33, dset (dset (dset (dset (dset lf 4 (0, d)) 3 (0, c)) 2 (0, b)) 1 (0, a)) 0 (4, 253), [(0, r_1)], cup g_1 253 2 0)) rfl
                  dsimp only at h
                  exact zret zy_296 h rfl rfl
theorem t_a_why {sv : Nat → Int32} {L n : Nat} {lf : dlf} {g : cg} {o : cg × Option cv} {a b c d : Int} (h : zr sv L n 293 0 lf [] g o) (hl0 : lf 0 = (4, 0)) (hl1 : lf 1 = (0, a)) (hl2 : lf 2 = (0, b)) (hl3 : lf 3 = (0, c)) (hl4 : lf 4 = (0, d)) : ∃ g_1 r_1, zr sv L n 89 0 (darg 0 [(4, 0), (0, a), (0, b), (0, c), (0, d)]) [] g (g_1, some (0, r_1)) ∧ (((r_1 = 0) ∧ (o = (cup g_1 0 0 1, some (0, (-1))))) ∨ ((r_1 ≠ 0) ∧ (∃ g_2 r_2, zr sv L n 94 0 (darg 0 [(4, 92), (0, c), (0, d)]) [] g_1 (g_2, some (0, r_2)) ∧ (o = (cup g_2 0 0 0, some (0, r_2)))))) := by
  rw [zov hl0, zov hl1, zov hl2, zov hl3, zov hl4] at h
  have h := zm zy_293 h 5 (q := (6, dset (dset (dset (dset (dset lf 4 (0, d)) 3 (0, c)) 2 (0, b)) 1 (0, a)) 0 (4, 0), [(0, d), (0, c), (0, b), (0, a), (4, 0)], g)) rfl
  dsimp only at h
  obtain ⟨g_1, r_1, hk, h⟩ := zcallI zy_293 h rfl rfl zy_89 zk_89
  dsimp only at hk h
  refine ⟨g_1, r_1, hk, ?_⟩
  have h := zm zy_293 h 1 (q := (cond (crel .eq r_1 0) 29 12, dset (dset (dset (dset (dset lf 4 (0, d)) 3 (0, c)) 2 (0, b)) 1 (0, a)) 0 (4, 0), [], g_1)) rfl
  dsimp only at h
  rcases zif_eq h with ⟨hc1, h⟩ | ⟨hc1, h⟩
  · have h := zm zy_293 h 2 (q := (31, dset (dset (dset (dset (dset lf 4 (0, d)) 3 (0, c)) 2 (0, b)) 1 (0, a)) 0 (4, 0), [(0, 1), (4, 0)], g_1)) rfl
    dsimp only at h
    obtain ⟨gz2, rz3, hk, h⟩ := zcallI zy_293 h rfl rfl zy_29 zk_29
    dsimp only at hk h
    have hO4 := h
    have h := hk
    clear hk
    have h := zm zy_29 h 4 (q := (6, darg 0 [(4, 0), (0, 1)], [(0, (-1))], cup g_1 0 0 1)) rfl
    dsimp only at h
    have h := zret zy_29 h rfl rfl
    obtain ⟨e1, e2⟩ := oI h
    have h := hO4
    rw [e1, e2] at h
    clear e1 e2
    clear hO4
    refine Or.inl (⟨hc1, ?_⟩)
    exact zret zy_293 h rfl rfl
  · have h := zm zy_293 h 5 (q := (20, dset (dset (dset (dset (dset lf 4 (0, d)) 3 (0, c)) 2 (0, b)) 1 (0, a)) 0 (4, 0), [(0, d), (0, c), (4, 92), (4, 0)], g_1)) rfl
    dsimp only at h
    obtain ⟨g_2, r_2, hk, h⟩ := zcallI zy_293 h rfl rfl zy_94 zk_94
    dsimp only at hk h
    refine Or.inr (⟨hc1, ?_⟩)
    refine ⟨g_2, r_2, hk, ?_⟩
    obtain ⟨gz5, rz6, hk, h⟩ := zcallI zy_293 h rfl rfl zy_64 zk_64
    dsimp only at hk h
    have hO7 := h
    have h := hk
    clear hk
    have h := zm zy_64 h 4 (q := (6, darg 0 [(4, 0), (0, r_2)], [(0, r_2)], cup g_2 0 0 0)) rfl
    dsimp only at h
    have h := zret zy_64 h rfl rfl
    obtain ⟨e1, e2⟩ := oI h
    have h := hO7
    rw [e1, e2] at h
    clear e1 e2
    clear hO7
    have h := zm zy_293 h 1 (q := (34, dset (dset (dset (dset (dset lf 4 (0, d)) 3 (0, c)) 2 (0, b)) 1 (0, a)) 0 (4, 0), [(0, r_2)], cup g_2 0 0 0)) rfl
    dsimp only at h
    exact zret zy_293 h rfl rfl
theorem m_a_why {sv : Nat → Int32} {L n : Nat} {lf : dlf} {g : cg} {o : cg × Option cv} {a b c d : Int} (h : zr sv L n 294 0 lf [] g o) (hl0 : lf 0 = (4, 253)) (hl1 : lf 1 = (0, a)) (hl2 : lf 2 = (0, b)) (hl3 : lf 3 = (0, c)) (hl4 : lf 4 = (0, d)) : (((a < 0) ∨ (0 ≤ a ∧ g 254 1 ≤ a) ∨ (0 ≤ a ∧ a < g 254 1 ∧ b < 0) ∨ (0 ≤ a ∧ a < g 254 1 ∧ 0 ≤ b ∧ g 254 1 ≤ b) ∨ (0 ≤ a ∧ a < g 254 1 ∧ 0 ≤ b ∧ b < g 254 1 ∧ c < 0) ∨ (0 ≤ a ∧ a < g 254 1 ∧ 0 ≤ b ∧ b < g 254 1 ∧ 0 ≤ c ∧ g 254 0 ≤ c) ∨ (0 ≤ a ∧ a < g 254 1 ∧ 0 ≤ b ∧ b < g 254 1 ∧ 0 ≤ c ∧ c < g 254 0 ∧ d < 0) ∨ (0 ≤ a ∧ a < g 254 1 ∧ 0 ≤ b ∧ b < g 254 1 ∧ 0 ≤ c ∧ c < g 254 0 ∧ 0 ≤ d ∧ 8 ≤ d)) ∧ (o = (cup g 253 2 1, some (0, (-1))))) ∨ ((0 ≤ a ∧ a < g 254 1 ∧ 0 ≤ b ∧ b < g 254 1 ∧ 0 ≤ c ∧ c < g 254 0 ∧ 0 ≤ d ∧ d < 8) ∧ (∃ g_1 r_1, zr sv L n 220 0 (darg 0 [(4, 253), (0, a), (0, b), (0, c), (0, d)]) [] g (g_1, some (0, r_1)) ∧ (o = (cup g_1 253 2 0, some (0, r_1))))) := by
  rw [zov hl0, zov hl1, zov hl2, zov hl3, zov hl4] at h
  have h := zm zy_294 h 5 (q := (6, dset (dset (dset (dset (dset lf 4 (0, d)) 3 (0, c)) 2 (0, b)) 1 (0, a)) 0 (4, 253), [(0, d), (0, c), (0, b), (0, a), (4, 253)], g)) rfl
  dsimp only at h
  obtain ⟨gz1, rz2, hk, h⟩ := zcallI zy_294 h rfl rfl zy_218 zk_218
  dsimp only at hk h
  have hO3 := h
  have h := hk
  clear hk
  have h := zm zy_218 h 2 (q := (2, darg 0 [(4, 253), (0, a), (0, b), (0, c), (0, d)], [(0, a), (4, 253)], g)) rfl
  dsimp only at h
  obtain ⟨gz4, rz5, hk, h⟩ := zcallI zy_218 h rfl rfl zy_208 zk_208
  dsimp only at hk h
  have hO6 := h
  have h := hk
  clear hk
  have h := zm zy_208 h 2 (q := (cond (crel .lt a 0) 18 4, darg 0 [(4, 253), (0, a)], [], g)) rfl
  dsimp only at h
  rcases zif_lt h with ⟨hc7, h⟩ | ⟨hc7, h⟩
  · have h := zm zy_208 h 1 (q := (19, darg 0 [(4, 253), (0, a)], [(0, 0)], g)) rfl
    dsimp only at h
    have h := zret zy_208 h rfl rfl
    obtain ⟨e1, e2⟩ := oI h
    have h := hO6
    rw [e1, e2] at h
    clear e1 e2
    clear hO6
    have h := zm zy_218 h 2 (q := (24, darg 0 [(4, 253), (0, a), (0, b), (0, c), (0, d)], [(0, 0)], g)) rfl
    dsimp only at h
    have h := zret zy_218 h rfl rfl
    obtain ⟨e1, e2⟩ := oI h
    have h := hO3
    rw [e1, e2] at h
    clear e1 e2
    clear hO3
    have h := zm zy_294 h 3 (q := (30, dset (dset (dset (dset (dset lf 4 (0, d)) 3 (0, c)) 2 (0, b)) 1 (0, a)) 0 (4, 253), [(0, 1), (4, 253)], g)) rfl
    dsimp only at h
    obtain ⟨gz8, rz9, hk, h⟩ := zcallI zy_294 h rfl rfl zy_170 zk_170
    dsimp only at hk h
    have hO10 := h
    have h := hk
    clear hk
    have h := zm zy_170 h 4 (q := (6, darg 0 [(4, 253), (0, 1)], [(0, (-1))], cup g 253 2 1)) rfl
    dsimp only at h
    have h := zret zy_170 h rfl rfl
    obtain ⟨e1, e2⟩ := oI h
    have h := hO10
    rw [e1, e2] at h
    clear e1 e2
    clear hO10
    refine Or.inl (⟨Or.inl (hc7), ?_⟩)
    exact zret zy_294 h rfl rfl
  · have h := zm zy_208 h 6 (q := (cond (crel .ge a (g 254 1)) 18 14, darg 0 [(4, 253), (0, a)], [], g)) rfl
    dsimp only at h
    rcases zif_ge h with ⟨hc11, h⟩ | ⟨hc11, h⟩
    · have h := zm zy_208 h 1 (q := (19, darg 0 [(4, 253), (0, a)], [(0, 0)], g)) rfl
      dsimp only at h
      have h := zret zy_208 h rfl rfl
      obtain ⟨e1, e2⟩ := oI h
      have h := hO6
      rw [e1, e2] at h
      clear e1 e2
      clear hO6
      have h := zm zy_218 h 2 (q := (24, darg 0 [(4, 253), (0, a), (0, b), (0, c), (0, d)], [(0, 0)], g)) rfl
      dsimp only at h
      have h := zret zy_218 h rfl rfl
      obtain ⟨e1, e2⟩ := oI h
      have h := hO3
      rw [e1, e2] at h
      clear e1 e2
      clear hO3
      have h := zm zy_294 h 3 (q := (30, dset (dset (dset (dset (dset lf 4 (0, d)) 3 (0, c)) 2 (0, b)) 1 (0, a)) 0 (4, 253), [(0, 1), (4, 253)], g)) rfl
      dsimp only at h
      obtain ⟨gz12, rz13, hk, h⟩ := zcallI zy_294 h rfl rfl zy_170 zk_170
      dsimp only at hk h
      have hO14 := h
      have h := hk
      clear hk
      have h := zm zy_170 h 4 (q := (6, darg 0 [(4, 253), (0, 1)], [(0, (-1))], cup g 253 2 1)) rfl
      dsimp only at h
      have h := zret zy_170 h rfl rfl
      obtain ⟨e1, e2⟩ := oI h
      have h := hO14
      rw [e1, e2] at h
      clear e1 e2
      clear hO14
      refine Or.inl (⟨Or.inr (Or.inl (⟨hc7, hc11⟩)), ?_⟩)
      exact zret zy_294 h rfl rfl
    · have h := zm zy_208 h 2 (q := (19, darg 0 [(4, 253), (0, a)], [(0, 1)], g)) rfl
      dsimp only at h
      have h := zret zy_208 h rfl rfl
      obtain ⟨e1, e2⟩ := oI h
      have h := hO6
      rw [e1, e2] at h
      clear e1 e2
      clear hO6
      have h := zm zy_218 h 5 (q := (13, darg 0 [(4, 253), (0, a), (0, b), (0, c), (0, d)], [(0, d), (0, c), (0, b), (4, 253)], g)) rfl
      dsimp only at h
      obtain ⟨gz15, rz16, hk, h⟩ := zcallI zy_218 h rfl rfl zy_219 zk_219
      dsimp only at hk h
      have hO17 := h
      have h := hk
      clear hk
      have h := zm zy_219 h 2 (q := (2, darg 0 [(4, 253), (0, b), (0, c), (0, d)], [(0, b), (4, 253)], g)) rfl
      dsimp only at h
      obtain ⟨gz18, rz19, hk, h⟩ := zcallI zy_219 h rfl rfl zy_208 zk_208
      dsimp only at hk h
      have hO20 := h
      have h := hk
      clear hk
      have h := zm zy_208 h 2 (q := (cond (crel .lt b 0) 18 4, darg 0 [(4, 253), (0, b)], [], g)) rfl
      dsimp only at h
      rcases zif_lt h with ⟨hc21, h⟩ | ⟨hc21, h⟩
      · have h := zm zy_208 h 1 (q := (19, darg 0 [(4, 253), (0, b)], [(0, 0)], g)) rfl
        dsimp only at h
        have h := zret zy_208 h rfl rfl
        obtain ⟨e1, e2⟩ := oI h
        have h := hO20
        rw [e1, e2] at h
        clear e1 e2
        clear hO20
        have h := zm zy_219 h 2 (q := (28, darg 0 [(4, 253), (0, b), (0, c), (0, d)], [(0, 0)], g)) rfl
        dsimp only at h
        have h := zret zy_219 h rfl rfl
        obtain ⟨e1, e2⟩ := oI h
        have h := hO17
        rw [e1, e2] at h
        clear e1 e2
        clear hO17
        have h := zm zy_218 h 2 (q := (24, darg 0 [(4, 253), (0, a), (0, b), (0, c), (0, d)], [(0, 0)], g)) rfl
        dsimp only at h
        have h := zret zy_218 h rfl rfl
        obtain ⟨e1, e2⟩ := oI h
        have h := hO3
        rw [e1, e2] at h
        clear e1 e2
        clear hO3
        have h := zm zy_294 h 3 (q := (30, dset (dset (dset (dset (dset lf 4 (0, d)) 3 (0, c)) 2 (0, b)) 1 (0, a)) 0 (4, 253), [(0, 1), (4, 253)], g)) rfl
        dsimp only at h
        obtain ⟨gz22, rz23, hk, h⟩ := zcallI zy_294 h rfl rfl zy_170 zk_170
        dsimp only at hk h
        have hO24 := h
        have h := hk
        clear hk
        have h := zm zy_170 h 4 (q := (6, darg 0 [(4, 253), (0, 1)], [(0, (-1))], cup g 253 2 1)) rfl
        dsimp only at h
        have h := zret zy_170 h rfl rfl
        obtain ⟨e1, e2⟩ := oI h
        have h := hO24
        rw [e1, e2] at h
        clear e1 e2
        clear hO24
        refine Or.inl (⟨Or.inr (Or.inr (Or.inl (⟨hc7, hc11, hc21⟩))), ?_⟩)
        exact zret zy_294 h rfl rfl
      · have h := zm zy_208 h 6 (q := (cond (crel .ge b (g 254 1)) 18 14, darg 0 [(4, 253), (0, b)], [], g)) rfl
        dsimp only at h
        rcases zif_ge h with ⟨hc25, h⟩ | ⟨hc25, h⟩
        · have h := zm zy_208 h 1 (q := (19, darg 0 [(4, 253), (0, b)], [(0, 0)], g)) rfl
          dsimp only at h
          have h := zret zy_208 h rfl rfl
          obtain ⟨e1, e2⟩ := oI h
          have h := hO20
          rw [e1, e2] at h
          clear e1 e2
          clear hO20
          have h := zm zy_219 h 2 (q := (28, darg 0 [(4, 253), (0, b), (0, c), (0, d)], [(0, 0)], g)) rfl
          dsimp only at h
          have h := zret zy_219 h rfl rfl
          obtain ⟨e1, e2⟩ := oI h
          have h := hO17
          rw [e1, e2] at h
          clear e1 e2
          clear hO17
          have h := zm zy_218 h 2 (q := (24, darg 0 [(4, 253), (0, a), (0, b), (0, c), (0, d)], [(0, 0)], g)) rfl
          dsimp only at h
          have h := zret zy_218 h rfl rfl
          obtain ⟨e1, e2⟩ := oI h
          have h := hO3
          rw [e1, e2] at h
          clear e1 e2
          clear hO3
          have h := zm zy_294 h 3 (q := (30, dset (dset (dset (dset (dset lf 4 (0, d)) 3 (0, c)) 2 (0, b)) 1 (0, a)) 0 (4, 253), [(0, 1), (4, 253)], g)) rfl
          dsimp only at h
          obtain ⟨gz26, rz27, hk, h⟩ := zcallI zy_294 h rfl rfl zy_170 zk_170
          dsimp only at hk h
          have hO28 := h
          have h := hk
          clear hk
          have h := zm zy_170 h 4 (q := (6, darg 0 [(4, 253), (0, 1)], [(0, (-1))], cup g 253 2 1)) rfl
          dsimp only at h
          have h := zret zy_170 h rfl rfl
          obtain ⟨e1, e2⟩ := oI h
          have h := hO28
          rw [e1, e2] at h
          clear e1 e2
          clear hO28
          refine Or.inl (⟨Or.inr (Or.inr (Or.inr (Or.inl (⟨hc7, hc11, hc21, hc25⟩)))), ?_⟩)
          exact zret zy_294 h rfl rfl
        · have h := zm zy_208 h 2 (q := (19, darg 0 [(4, 253), (0, b)], [(0, 1)], g)) rfl
          dsimp only at h
          have h := zret zy_208 h rfl rfl
          obtain ⟨e1, e2⟩ := oI h
          have h := hO20
          rw [e1, e2] at h
          clear e1 e2
          clear hO20
          have h := zm zy_219 h 3 (q := (10, darg 0 [(4, 253), (0, b), (0, c), (0, d)], [(0, c), (4, 253)], g)) rfl
          dsimp only at h
          obtain ⟨gz29, rz30, hk, h⟩ := zcallI zy_219 h rfl rfl zy_207 zk_207
          dsimp only at hk h
          have hO31 := h
          have h := hk
          clear hk
          have h := zm zy_207 h 2 (q := (cond (crel .lt c 0) 18 4, darg 0 [(4, 253), (0, c)], [], g)) rfl
          dsimp only at h
          rcases zif_lt h with ⟨hc32, h⟩ | ⟨hc32, h⟩
          · have h := zm zy_207 h 1 (q := (19, darg 0 [(4, 253), (0, c)], [(0, 0)], g)) rfl
            dsimp only at h
            have h := zret zy_207 h rfl rfl
            obtain ⟨e1, e2⟩ := oI h
            have h := hO31
            rw [e1, e2] at h
            clear e1 e2
            clear hO31
            have h := zm zy_219 h 2 (q := (28, darg 0 [(4, 253), (0, b), (0, c), (0, d)], [(0, 0)], g)) rfl
            dsimp only at h
            have h := zret zy_219 h rfl rfl
            obtain ⟨e1, e2⟩ := oI h
            have h := hO17
            rw [e1, e2] at h
            clear e1 e2
            clear hO17
            have h := zm zy_218 h 2 (q := (24, darg 0 [(4, 253), (0, a), (0, b), (0, c), (0, d)], [(0, 0)], g)) rfl
            dsimp only at h
            have h := zret zy_218 h rfl rfl
            obtain ⟨e1, e2⟩ := oI h
            have h := hO3
            rw [e1, e2] at h
            clear e1 e2
            clear hO3
            have h := zm zy_294 h 3 (q := (30, dset (dset (dset (dset (dset lf 4 (0, d)) 3 (0, c)) 2 (0, b)) 1 (0, a)) 0 (4, 253), [(0, 1), (4, 253)], g)) rfl
            dsimp only at h
            obtain ⟨gz33, rz34, hk, h⟩ := zcallI zy_294 h rfl rfl zy_170 zk_170
            dsimp only at hk h
            have hO35 := h
            have h := hk
            clear hk
            have h := zm zy_170 h 4 (q := (6, darg 0 [(4, 253), (0, 1)], [(0, (-1))], cup g 253 2 1)) rfl
            dsimp only at h
            have h := zret zy_170 h rfl rfl
            obtain ⟨e1, e2⟩ := oI h
            have h := hO35
            rw [e1, e2] at h
            clear e1 e2
            clear hO35
            refine Or.inl (⟨Or.inr (Or.inr (Or.inr (Or.inr (Or.inl (⟨hc7, hc11, hc21, hc25, hc32⟩))))), ?_⟩)
            exact zret zy_294 h rfl rfl
          · have h := zm zy_207 h 6 (q := (cond (crel .ge c (g 254 0)) 18 14, darg 0 [(4, 253), (0, c)], [], g)) rfl
            dsimp only at h
            rcases zif_ge h with ⟨hc36, h⟩ | ⟨hc36, h⟩
            · have h := zm zy_207 h 1 (q := (19, darg 0 [(4, 253), (0, c)], [(0, 0)], g)) rfl
              dsimp only at h
              have h := zret zy_207 h rfl rfl
              obtain ⟨e1, e2⟩ := oI h
              have h := hO31
              rw [e1, e2] at h
              clear e1 e2
              clear hO31
              have h := zm zy_219 h 2 (q := (28, darg 0 [(4, 253), (0, b), (0, c), (0, d)], [(0, 0)], g)) rfl
              dsimp only at h
              have h := zret zy_219 h rfl rfl
              obtain ⟨e1, e2⟩ := oI h
              have h := hO17
              rw [e1, e2] at h
              clear e1 e2
              clear hO17
              have h := zm zy_218 h 2 (q := (24, darg 0 [(4, 253), (0, a), (0, b), (0, c), (0, d)], [(0, 0)], g)) rfl
              dsimp only at h
              have h := zret zy_218 h rfl rfl
              obtain ⟨e1, e2⟩ := oI h
              have h := hO3
              rw [e1, e2] at h
              clear e1 e2
              clear hO3
              have h := zm zy_294 h 3 (q := (30, dset (dset (dset (dset (dset lf 4 (0, d)) 3 (0, c)) 2 (0, b)) 1 (0, a)) 0 (4, 253), [(0, 1), (4, 253)], g)) rfl
              dsimp only at h
              obtain ⟨gz37, rz38, hk, h⟩ := zcallI zy_294 h rfl rfl zy_170 zk_170
              dsimp only at hk h
              have hO39 := h
              have h := hk
              clear hk
              have h := zm zy_170 h 4 (q := (6, darg 0 [(4, 253), (0, 1)], [(0, (-1))], cup g 253 2 1)) rfl
              dsimp only at h
              have h := zret zy_170 h rfl rfl
              obtain ⟨e1, e2⟩ := oI h
              have h := hO39
              rw [e1, e2] at h
              clear e1 e2
              clear hO39
              refine Or.inl (⟨Or.inr (Or.inr (Or.inr (Or.inr (Or.inr (Or.inl (⟨hc7, hc11, hc21, hc25, hc32, hc36⟩)))))), ?_⟩)
              exact zret zy_294 h rfl rfl
            · have h := zm zy_207 h 2 (q := (19, darg 0 [(4, 253), (0, c)], [(0, 1)], g)) rfl
              dsimp only at h
              have h := zret zy_207 h rfl rfl
              obtain ⟨e1, e2⟩ := oI h
              have h := hO31
              rw [e1, e2] at h
              clear e1 e2
              clear hO31
              have h := zm zy_219 h 2 (q := (17, darg 0 [(4, 253), (0, b), (0, c), (0, d)], [(0, d)], g)) rfl
              dsimp only at h
              obtain ⟨gz40, rz41, hk, h⟩ := zcallI zy_219 h rfl rfl zy_216 zk_216
              dsimp only at hk h
              have hO42 := h
              have h := hk
              clear hk
              have h := zm zy_216 h 2 (q := (cond (crel .lt d 0) 14 4, darg 0 [(0, d)], [], g)) rfl
              dsimp only at h
              rcases zif_lt h with ⟨hc43, h⟩ | ⟨hc43, h⟩
              · have h := zm zy_216 h 1 (q := (15, darg 0 [(0, d)], [(0, 0)], g)) rfl
                dsimp only at h
                have h := zret zy_216 h rfl rfl
                obtain ⟨e1, e2⟩ := oI h
                have h := hO42
                rw [e1, e2] at h
                clear e1 e2
                clear hO42
                have h := zm zy_219 h 2 (q := (28, darg 0 [(4, 253), (0, b), (0, c), (0, d)], [(0, 0)], g)) rfl
                dsimp only at h
                have h := zret zy_219 h rfl rfl
                obtain ⟨e1, e2⟩ := oI h
                have h := hO17
                rw [e1, e2] at h
                clear e1 e2
                clear hO17
                have h := zm zy_218 h 2 (q := (24, darg 0 [(4, 253), (0, a), (0, b), (0, c), (0, d)], [(0, 0)], g)) rfl
                dsimp only at h
                have h := zret zy_218 h rfl rfl
                obtain ⟨e1, e2⟩ := oI h
                have h := hO3
                rw [e1, e2] at h
                clear e1 e2
                clear hO3
                have h := zm zy_294 h 3 (q := (30, dset (dset (dset (dset (dset lf 4 (0, d)) 3 (0, c)) 2 (0, b)) 1 (0, a)) 0 (4, 253), [(0, 1), (4, 253)], g)) rfl
                dsimp only at h
                obtain ⟨gz44, rz45, hk, h⟩ := zcallI zy_294 h rfl rfl zy_170 zk_170
                dsimp only at hk h
                have hO46 := h
                have h := hk
                clear hk
                have h := zm zy_170 h 4 (q := (6, darg 0 [(4, 253), (0, 1)], [(0, (-1))], cup g 253 2 1)) rfl
                dsimp only at h
                have h := zret zy_170 h rfl rfl
                obtain ⟨e1, e2⟩ := oI h
                have h := hO46
                rw [e1, e2] at h
                clear e1 e2
                clear hO46
                refine Or.inl (⟨Or.inr (Or.inr (Or.inr (Or.inr (Or.inr (Or.inr (Or.inl (⟨hc7, hc11, hc21, hc25, hc32, hc36, hc43⟩))))))), ?_⟩)
                exact zret zy_294 h rfl rfl
              · have h := zm zy_216 h 3 (q := (cond (crel .ge d 8) 14 10, darg 0 [(0, d)], [], g)) rfl
                dsimp only at h
                rcases zif_ge h with ⟨hc47, h⟩ | ⟨hc47, h⟩
                · have h := zm zy_216 h 1 (q := (15, darg 0 [(0, d)], [(0, 0)], g)) rfl
                  dsimp only at h
                  have h := zret zy_216 h rfl rfl
                  obtain ⟨e1, e2⟩ := oI h
                  have h := hO42
                  rw [e1, e2] at h
                  clear e1 e2
                  clear hO42
                  have h := zm zy_219 h 2 (q := (28, darg 0 [(4, 253), (0, b), (0, c), (0, d)], [(0, 0)], g)) rfl
                  dsimp only at h
                  have h := zret zy_219 h rfl rfl
                  obtain ⟨e1, e2⟩ := oI h
                  have h := hO17
                  rw [e1, e2] at h
                  clear e1 e2
                  clear hO17
                  have h := zm zy_218 h 2 (q := (24, darg 0 [(4, 253), (0, a), (0, b), (0, c), (0, d)], [(0, 0)], g)) rfl
                  dsimp only at h
                  have h := zret zy_218 h rfl rfl
                  obtain ⟨e1, e2⟩ := oI h
                  have h := hO3
                  rw [e1, e2] at h
                  clear e1 e2
                  clear hO3
                  have h := zm zy_294 h 3 (q := (30, dset (dset (dset (dset (dset lf 4 (0, d)) 3 (0, c)) 2 (0, b)) 1 (0, a)) 0 (4, 253), [(0, 1), (4, 253)], g)) rfl
                  dsimp only at h
                  obtain ⟨gz48, rz49, hk, h⟩ := zcallI zy_294 h rfl rfl zy_170 zk_170
                  dsimp only at hk h
                  have hO50 := h
                  have h := hk
                  clear hk
                  have h := zm zy_170 h 4 (q := (6, darg 0 [(4, 253), (0, 1)], [(0, (-1))], cup g 253 2 1)) rfl
                  dsimp only at h
                  have h := zret zy_170 h rfl rfl
                  obtain ⟨e1, e2⟩ := oI h
                  have h := hO50
                  rw [e1, e2] at h
                  clear e1 e2
                  clear hO50
                  refine Or.inl (⟨Or.inr (Or.inr (Or.inr (Or.inr (Or.inr (Or.inr (Or.inr (⟨hc7, hc11, hc21, hc25, hc32, hc36, hc43, hc47⟩))))))), ?_⟩)
                  exact zret zy_294 h rfl rfl
                · have h := zm zy_216 h 2 (q := (15, darg 0 [(0, d)], [(0, 1)], g)) rfl
                  dsimp only at h
                  have h := zret zy_216 h rfl rfl
                  obtain ⟨e1, e2⟩ := oI h
                  have h := hO42
                  rw [e1, e2] at h
                  clear e1 e2
                  clear hO42
                  have h := zm zy_219 h 3 (q := (28, darg 0 [(4, 253), (0, b), (0, c), (0, d)], [(0, 1)], g)) rfl
                  dsimp only at h
                  have h := zret zy_219 h rfl rfl
                  obtain ⟨e1, e2⟩ := oI h
                  have h := hO17
                  rw [e1, e2] at h
                  clear e1 e2
                  clear hO17
                  have h := zm zy_218 h 3 (q := (24, darg 0 [(4, 253), (0, a), (0, b), (0, c), (0, d)], [(0, 1)], g)) rfl
                  dsimp only at h
                  have h := zret zy_218 h rfl rfl
                  obtain ⟨e1, e2⟩ := oI h
                  have h := hO3
                  rw [e1, e2] at h
                  clear e1 e2
                  clear hO3
                  have h := zm zy_294 h 7 (q := (19, dset (dset (dset (dset (dset lf 4 (0, d)) 3 (0, c)) 2 (0, b)) 1 (0, a)) 0 (4, 253), [(0, d), (0, c), (0, b), (0, a), (4, 253), (4, 253)], g)) rfl
                  dsimp only at h
                  obtain ⟨g_1, r_1, hk, h⟩ := zcallI zy_294 h rfl rfl zy_220 zk_220
                  dsimp only at hk h
                  refine Or.inr (⟨⟨hc7, hc11, hc21, hc25, hc32, hc36, hc43, hc47⟩, ?_⟩)
                  refine ⟨g_1, r_1, hk, ?_⟩
                  obtain ⟨gz51, rz52, hk, h⟩ := zcallI zy_294 h rfl rfl zy_192 zk_192
                  dsimp only at hk h
                  have hO53 := h
                  have h := hk
                  clear hk
                  have h := zm zy_192 h 4 (q := (6, darg 0 [(4, 253), (0, r_1)], [(0, r_1)], cup g_1 253 2 0)) rfl
                  dsimp only at h
                  have h := zret zy_192 h rfl rfl
                  obtain ⟨e1, e2⟩ := oI h
                  have h := hO53
                  rw [e1, e2] at h
                  clear e1 e2
                  clear hO53
                  have h := zm zy_294 h 1 (q := (33, dset (dset (dset (dset (dset lf 4 (0, d)) 3 (0, c)) 2 (0, b)) 1 (0, a)) 0 (4, 253), [(0, r_1)], cup g_1 253 2 0)) rfl
                  dsimp only at h
                  exact zret zy_294 h rfl rfl
theorem t_a_bkd {sv : Nat → Int32} {L n : Nat} {lf : dlf} {g : cg} {o : cg × Option cv} {a b c : Int} (h : zr sv L n 299 0 lf [] g o) (hl0 : lf 0 = (4, 0)) (hl1 : lf 1 = (0, a)) (hl2 : lf 2 = (0, b)) (hl3 : lf 3 = (0, c)) : (((a < 0) ∨ (0 ≤ a ∧ g 3 3 ≤ a) ∨ (0 ≤ a ∧ a < g 3 3 ∧ b < 0) ∨ (0 ≤ a ∧ a < g 3 3 ∧ 0 ≤ b ∧ g 3 0 ≤ b) ∨ (0 ≤ a ∧ a < g 3 3 ∧ 0 ≤ b ∧ b < g 3 0 ∧ c < 0) ∨ (0 ≤ a ∧ a < g 3 3 ∧ 0 ≤ b ∧ b < g 3 0 ∧ 0 ≤ c ∧ 8 ≤ c)) ∧ (o = (cup g 0 0 1, some (0, (-1))))) ∨ ((0 ≤ a ∧ a < g 3 3 ∧ 0 ≤ b ∧ b < g 3 0 ∧ 0 ≤ c ∧ c < 8) ∧ (∃ g_1 r_1, zr sv L n 98 0 (darg 0 [(4, 3), (0, a), (0, b), (0, c)]) [] g (g_1, some (0, r_1)) ∧ (o = (cup g_1 0 0 0, some (0, r_1))))) := by
  rw [zov hl0, zov hl1, zov hl2, zov hl3] at h
  have h := zm zy_299 h 5 (q := (7, dset (dset (dset (dset lf 3 (0, c)) 2 (0, b)) 1 (0, a)) 0 (4, 0), [(0, c), (0, b), (0, a), (4, 3)], g)) rfl
  dsimp only at h
  obtain ⟨gz1, rz2, hk, h⟩ := zcallI zy_299 h rfl rfl zy_90 zk_90
  dsimp only at hk h
  have hO3 := h
  have h := hk
  clear hk
  have h := zm zy_90 h 2 (q := (2, darg 0 [(4, 3), (0, a), (0, b), (0, c)], [(0, a), (4, 3)], g)) rfl
  dsimp only at h
  obtain ⟨gz4, rz5, hk, h⟩ := zcallI zy_90 h rfl rfl zy_81 zk_81
  dsimp only at hk h
  have hO6 := h
  have h := hk
  clear hk
  have h := zm zy_81 h 2 (q := (cond (crel .lt a 0) 16 4, darg 0 [(4, 3), (0, a)], [], g)) rfl
  dsimp only at h
  rcases zif_lt h with ⟨hc7, h⟩ | ⟨hc7, h⟩
  · have h := zm zy_81 h 1 (q := (17, darg 0 [(4, 3), (0, a)], [(0, 0)], g)) rfl
    dsimp only at h
    have h := zret zy_81 h rfl rfl
    obtain ⟨e1, e2⟩ := oI h
    have h := hO6
    rw [e1, e2] at h
    clear e1 e2
    clear hO6
    have h := zm zy_90 h 2 (q := (28, darg 0 [(4, 3), (0, a), (0, b), (0, c)], [(0, 0)], g)) rfl
    dsimp only at h
    have h := zret zy_90 h rfl rfl
    obtain ⟨e1, e2⟩ := oI h
    have h := hO3
    rw [e1, e2] at h
    clear e1 e2
    clear hO3
    have h := zm zy_299 h 3 (q := (15, dset (dset (dset (dset lf 3 (0, c)) 2 (0, b)) 1 (0, a)) 0 (4, 0), [(0, 1), (4, 0)], g)) rfl
    dsimp only at h
    obtain ⟨gz8, rz9, hk, h⟩ := zcallI zy_299 h rfl rfl zy_29 zk_29
    dsimp only at hk h
    have hO10 := h
    have h := hk
    clear hk
    have h := zm zy_29 h 4 (q := (6, darg 0 [(4, 0), (0, 1)], [(0, (-1))], cup g 0 0 1)) rfl
    dsimp only at h
    have h := zret zy_29 h rfl rfl
    obtain ⟨e1, e2⟩ := oI h
    have h := hO10
    rw [e1, e2] at h
    clear e1 e2
    clear hO10
    refine Or.inl (⟨Or.inl (hc7), ?_⟩)
    exact zret zy_299 h rfl rfl
  · have h := zm zy_81 h 4 (q := (cond (crel .ge a (g 3 3)) 16 12, darg 0 [(4, 3), (0, a)], [], g)) rfl
    dsimp only at h
    rcases zif_ge h with ⟨hc11, h⟩ | ⟨hc11, h⟩
    · have h := zm zy_81 h 1 (q := (17, darg 0 [(4, 3), (0, a)], [(0, 0)], g)) rfl
      dsimp only at h
      have h := zret zy_81 h rfl rfl
      obtain ⟨e1, e2⟩ := oI h
      have h := hO6
      rw [e1, e2] at h
      clear e1 e2
      clear hO6
      have h := zm zy_90 h 2 (q := (28, darg 0 [(4, 3), (0, a), (0, b), (0, c)], [(0, 0)], g)) rfl
      dsimp only at h
      have h := zret zy_90 h rfl rfl
      obtain ⟨e1, e2⟩ := oI h
      have h := hO3
      rw [e1, e2] at h
      clear e1 e2
      clear hO3
      have h := zm zy_299 h 3 (q := (15, dset (dset (dset (dset lf 3 (0, c)) 2 (0, b)) 1 (0, a)) 0 (4, 0), [(0, 1), (4, 0)], g)) rfl
      dsimp only at h
      obtain ⟨gz12, rz13, hk, h⟩ := zcallI zy_299 h rfl rfl zy_29 zk_29
      dsimp only at hk h
      have hO14 := h
      have h := hk
      clear hk
      have h := zm zy_29 h 4 (q := (6, darg 0 [(4, 0), (0, 1)], [(0, (-1))], cup g 0 0 1)) rfl
      dsimp only at h
      have h := zret zy_29 h rfl rfl
      obtain ⟨e1, e2⟩ := oI h
      have h := hO14
      rw [e1, e2] at h
      clear e1 e2
      clear hO14
      refine Or.inl (⟨Or.inr (Or.inl (⟨hc7, hc11⟩)), ?_⟩)
      exact zret zy_299 h rfl rfl
    · have h := zm zy_81 h 2 (q := (17, darg 0 [(4, 3), (0, a)], [(0, 1)], g)) rfl
      dsimp only at h
      have h := zret zy_81 h rfl rfl
      obtain ⟨e1, e2⟩ := oI h
      have h := hO6
      rw [e1, e2] at h
      clear e1 e2
      clear hO6
      have h := zm zy_90 h 3 (q := (10, darg 0 [(4, 3), (0, a), (0, b), (0, c)], [(0, b), (4, 3)], g)) rfl
      dsimp only at h
      obtain ⟨gz15, rz16, hk, h⟩ := zcallI zy_90 h rfl rfl zy_80 zk_80
      dsimp only at hk h
      have hO17 := h
      have h := hk
      clear hk
      have h := zm zy_80 h 2 (q := (cond (crel .lt b 0) 16 4, darg 0 [(4, 3), (0, b)], [], g)) rfl
      dsimp only at h
      rcases zif_lt h with ⟨hc18, h⟩ | ⟨hc18, h⟩
      · have h := zm zy_80 h 1 (q := (17, darg 0 [(4, 3), (0, b)], [(0, 0)], g)) rfl
        dsimp only at h
        have h := zret zy_80 h rfl rfl
        obtain ⟨e1, e2⟩ := oI h
        have h := hO17
        rw [e1, e2] at h
        clear e1 e2
        clear hO17
        have h := zm zy_90 h 2 (q := (28, darg 0 [(4, 3), (0, a), (0, b), (0, c)], [(0, 0)], g)) rfl
        dsimp only at h
        have h := zret zy_90 h rfl rfl
        obtain ⟨e1, e2⟩ := oI h
        have h := hO3
        rw [e1, e2] at h
        clear e1 e2
        clear hO3
        have h := zm zy_299 h 3 (q := (15, dset (dset (dset (dset lf 3 (0, c)) 2 (0, b)) 1 (0, a)) 0 (4, 0), [(0, 1), (4, 0)], g)) rfl
        dsimp only at h
        obtain ⟨gz19, rz20, hk, h⟩ := zcallI zy_299 h rfl rfl zy_29 zk_29
        dsimp only at hk h
        have hO21 := h
        have h := hk
        clear hk
        have h := zm zy_29 h 4 (q := (6, darg 0 [(4, 0), (0, 1)], [(0, (-1))], cup g 0 0 1)) rfl
        dsimp only at h
        have h := zret zy_29 h rfl rfl
        obtain ⟨e1, e2⟩ := oI h
        have h := hO21
        rw [e1, e2] at h
        clear e1 e2
        clear hO21
        refine Or.inl (⟨Or.inr (Or.inr (Or.inl (⟨hc7, hc11, hc18⟩))), ?_⟩)
        exact zret zy_299 h rfl rfl
      · have h := zm zy_80 h 4 (q := (cond (crel .ge b (g 3 0)) 16 12, darg 0 [(4, 3), (0, b)], [], g)) rfl
        dsimp only at h
        rcases zif_ge h with ⟨hc22, h⟩ | ⟨hc22, h⟩
        · have h := zm zy_80 h 1 (q := (17, darg 0 [(4, 3), (0, b)], [(0, 0)], g)) rfl
          dsimp only at h
          have h := zret zy_80 h rfl rfl
          obtain ⟨e1, e2⟩ := oI h
          have h := hO17
          rw [e1, e2] at h
          clear e1 e2
          clear hO17
          have h := zm zy_90 h 2 (q := (28, darg 0 [(4, 3), (0, a), (0, b), (0, c)], [(0, 0)], g)) rfl
          dsimp only at h
          have h := zret zy_90 h rfl rfl
          obtain ⟨e1, e2⟩ := oI h
          have h := hO3
          rw [e1, e2] at h
          clear e1 e2
          clear hO3
          have h := zm zy_299 h 3 (q := (15, dset (dset (dset (dset lf 3 (0, c)) 2 (0, b)) 1 (0, a)) 0 (4, 0), [(0, 1), (4, 0)], g)) rfl
          dsimp only at h
          obtain ⟨gz23, rz24, hk, h⟩ := zcallI zy_299 h rfl rfl zy_29 zk_29
          dsimp only at hk h
          have hO25 := h
          have h := hk
          clear hk
          have h := zm zy_29 h 4 (q := (6, darg 0 [(4, 0), (0, 1)], [(0, (-1))], cup g 0 0 1)) rfl
          dsimp only at h
          have h := zret zy_29 h rfl rfl
          obtain ⟨e1, e2⟩ := oI h
          have h := hO25
          rw [e1, e2] at h
          clear e1 e2
          clear hO25
          refine Or.inl (⟨Or.inr (Or.inr (Or.inr (Or.inl (⟨hc7, hc11, hc18, hc22⟩)))), ?_⟩)
          exact zret zy_299 h rfl rfl
        · have h := zm zy_80 h 2 (q := (17, darg 0 [(4, 3), (0, b)], [(0, 1)], g)) rfl
          dsimp only at h
          have h := zret zy_80 h rfl rfl
          obtain ⟨e1, e2⟩ := oI h
          have h := hO17
          rw [e1, e2] at h
          clear e1 e2
          clear hO17
          have h := zm zy_90 h 2 (q := (17, darg 0 [(4, 3), (0, a), (0, b), (0, c)], [(0, c)], g)) rfl
          dsimp only at h
          obtain ⟨gz26, rz27, hk, h⟩ := zcallI zy_90 h rfl rfl zy_86 zk_86
          dsimp only at hk h
          have hO28 := h
          have h := hk
          clear hk
          have h := zm zy_86 h 2 (q := (cond (crel .lt c 0) 14 4, darg 0 [(0, c)], [], g)) rfl
          dsimp only at h
          rcases zif_lt h with ⟨hc29, h⟩ | ⟨hc29, h⟩
          · have h := zm zy_86 h 1 (q := (15, darg 0 [(0, c)], [(0, 0)], g)) rfl
            dsimp only at h
            have h := zret zy_86 h rfl rfl
            obtain ⟨e1, e2⟩ := oI h
            have h := hO28
            rw [e1, e2] at h
            clear e1 e2
            clear hO28
            have h := zm zy_90 h 2 (q := (28, darg 0 [(4, 3), (0, a), (0, b), (0, c)], [(0, 0)], g)) rfl
            dsimp only at h
            have h := zret zy_90 h rfl rfl
            obtain ⟨e1, e2⟩ := oI h
            have h := hO3
            rw [e1, e2] at h
            clear e1 e2
            clear hO3
            have h := zm zy_299 h 3 (q := (15, dset (dset (dset (dset lf 3 (0, c)) 2 (0, b)) 1 (0, a)) 0 (4, 0), [(0, 1), (4, 0)], g)) rfl
            dsimp only at h
            obtain ⟨gz30, rz31, hk, h⟩ := zcallI zy_299 h rfl rfl zy_29 zk_29
            dsimp only at hk h
            have hO32 := h
            have h := hk
            clear hk
            have h := zm zy_29 h 4 (q := (6, darg 0 [(4, 0), (0, 1)], [(0, (-1))], cup g 0 0 1)) rfl
            dsimp only at h
            have h := zret zy_29 h rfl rfl
            obtain ⟨e1, e2⟩ := oI h
            have h := hO32
            rw [e1, e2] at h
            clear e1 e2
            clear hO32
            refine Or.inl (⟨Or.inr (Or.inr (Or.inr (Or.inr (Or.inl (⟨hc7, hc11, hc18, hc22, hc29⟩))))), ?_⟩)
            exact zret zy_299 h rfl rfl
          · have h := zm zy_86 h 3 (q := (cond (crel .ge c 8) 14 10, darg 0 [(0, c)], [], g)) rfl
            dsimp only at h
            rcases zif_ge h with ⟨hc33, h⟩ | ⟨hc33, h⟩
            · have h := zm zy_86 h 1 (q := (15, darg 0 [(0, c)], [(0, 0)], g)) rfl
              dsimp only at h
              have h := zret zy_86 h rfl rfl
              obtain ⟨e1, e2⟩ := oI h
              have h := hO28
              rw [e1, e2] at h
              clear e1 e2
              clear hO28
              have h := zm zy_90 h 2 (q := (28, darg 0 [(4, 3), (0, a), (0, b), (0, c)], [(0, 0)], g)) rfl
              dsimp only at h
              have h := zret zy_90 h rfl rfl
              obtain ⟨e1, e2⟩ := oI h
              have h := hO3
              rw [e1, e2] at h
              clear e1 e2
              clear hO3
              have h := zm zy_299 h 3 (q := (15, dset (dset (dset (dset lf 3 (0, c)) 2 (0, b)) 1 (0, a)) 0 (4, 0), [(0, 1), (4, 0)], g)) rfl
              dsimp only at h
              obtain ⟨gz34, rz35, hk, h⟩ := zcallI zy_299 h rfl rfl zy_29 zk_29
              dsimp only at hk h
              have hO36 := h
              have h := hk
              clear hk
              have h := zm zy_29 h 4 (q := (6, darg 0 [(4, 0), (0, 1)], [(0, (-1))], cup g 0 0 1)) rfl
              dsimp only at h
              have h := zret zy_29 h rfl rfl
              obtain ⟨e1, e2⟩ := oI h
              have h := hO36
              rw [e1, e2] at h
              clear e1 e2
              clear hO36
              refine Or.inl (⟨Or.inr (Or.inr (Or.inr (Or.inr (Or.inr (⟨hc7, hc11, hc18, hc22, hc29, hc33⟩))))), ?_⟩)
              exact zret zy_299 h rfl rfl
            · have h := zm zy_86 h 2 (q := (15, darg 0 [(0, c)], [(0, 1)], g)) rfl
              dsimp only at h
              have h := zret zy_86 h rfl rfl
              obtain ⟨e1, e2⟩ := oI h
              have h := hO28
              rw [e1, e2] at h
              clear e1 e2
              clear hO28
              have h := zm zy_90 h 3 (q := (28, darg 0 [(4, 3), (0, a), (0, b), (0, c)], [(0, 1)], g)) rfl
              dsimp only at h
              have h := zret zy_90 h rfl rfl
              obtain ⟨e1, e2⟩ := oI h
              have h := hO3
              rw [e1, e2] at h
              clear e1 e2
              clear hO3
              have h := zm zy_299 h 7 (q := (27, dset (dset (dset (dset lf 3 (0, c)) 2 (0, b)) 1 (0, a)) 0 (4, 0), [(0, c), (0, b), (0, a), (4, 3), (4, 0)], g)) rfl
              dsimp only at h
              obtain ⟨g_1, r_1, hk, h⟩ := zcallI zy_299 h rfl rfl zy_98 zk_98
              dsimp only at hk h
              refine Or.inr (⟨⟨hc7, hc11, hc18, hc22, hc29, hc33⟩, ?_⟩)
              refine ⟨g_1, r_1, hk, ?_⟩
              obtain ⟨gz37, rz38, hk, h⟩ := zcallI zy_299 h rfl rfl zy_64 zk_64
              dsimp only at hk h
              have hO39 := h
              have h := hk
              clear hk
              have h := zm zy_64 h 4 (q := (6, darg 0 [(4, 0), (0, r_1)], [(0, r_1)], cup g_1 0 0 0)) rfl
              dsimp only at h
              have h := zret zy_64 h rfl rfl
              obtain ⟨e1, e2⟩ := oI h
              have h := hO39
              rw [e1, e2] at h
              clear e1 e2
              clear hO39
              exact zret zy_299 h rfl rfl
theorem m_a_bkd {sv : Nat → Int32} {L n : Nat} {lf : dlf} {g : cg} {o : cg × Option cv} {a b c : Int} (h : zr sv L n 300 0 lf [] g o) (hl0 : lf 0 = (4, 253)) (hl1 : lf 1 = (0, a)) (hl2 : lf 2 = (0, b)) (hl3 : lf 3 = (0, c)) : (((a < 0) ∨ (0 ≤ a ∧ g 254 1 ≤ a) ∨ (0 ≤ a ∧ a < g 254 1 ∧ b < 0) ∨ (0 ≤ a ∧ a < g 254 1 ∧ 0 ≤ b ∧ g 254 0 ≤ b) ∨ (0 ≤ a ∧ a < g 254 1 ∧ 0 ≤ b ∧ b < g 254 0 ∧ c < 0) ∨ (0 ≤ a ∧ a < g 254 1 ∧ 0 ≤ b ∧ b < g 254 0 ∧ 0 ≤ c ∧ 8 ≤ c)) ∧ (o = (cup g 253 2 1, some (0, (-1))))) ∨ ((0 ≤ a ∧ a < g 254 1 ∧ 0 ≤ b ∧ b < g 254 0 ∧ 0 ≤ c ∧ c < 8) ∧ (∃ g_1 r_1, zr sv L n 226 0 (darg 0 [(4, 253), (0, a), (0, b), (0, c), (0, (-1))]) [] g (g_1, some (0, r_1)) ∧ (o = (cup g_1 253 2 0, some (0, r_1))))) := by
  rw [zov hl0, zov hl1, zov hl2, zov hl3] at h
  have h := zm zy_300 h 4 (q := (4, dset (dset (dset (dset lf 3 (0, c)) 2 (0, b)) 1 (0, a)) 0 (4, 253), [(0, c), (0, b), (0, a), (4, 253)], g)) rfl
  dsimp only at h
  obtain ⟨gz1, rz2, hk, h⟩ := zcallI zy_300 h rfl rfl zy_219 zk_219
  dsimp only at hk h
  have hO3 := h
  have h := hk
  clear hk
  have h := zm zy_219 h 2 (q := (2, darg 0 [(4, 253), (0, a), (0, b), (0, c)], [(0, a), (4, 253)], g)) rfl
  dsimp only at h
  obtain ⟨gz4, rz5, hk, h⟩ := zcallI zy_219 h rfl rfl zy_208 zk_208
  dsimp only at hk h
  have hO6 := h
  have h := hk
  clear hk
  have h := zm zy_208 h 2 (q := (cond (crel .lt a 0) 18 4, darg 0 [(4, 253), (0, a)], [], g)) rfl
  dsimp only at h
  rcases zif_lt h with ⟨hc7, h⟩ | ⟨hc7, h⟩
  · have h := zm zy_208 h 1 (q := (19, darg 0 [(4, 253), (0, a)], [(0, 0)], g)) rfl
    dsimp only at h
    have h := zret zy_208 h rfl rfl
    obtain ⟨e1, e2⟩ := oI h
    have h := hO6
    rw [e1, e2] at h
    clear e1 e2
    clear hO6
    have h := zm zy_219 h 2 (q := (28, darg 0 [(4, 253), (0, a), (0, b), (0, c)], [(0, 0)], g)) rfl
    dsimp only at h
    have h := zret zy_219 h rfl rfl
    obtain ⟨e1, e2⟩ := oI h
    have h := hO3
    rw [e1, e2] at h
    clear e1 e2
    clear hO3
    have h := zm zy_300 h 3 (q := (27, dset (dset (dset (dset lf 3 (0, c)) 2 (0, b)) 1 (0, a)) 0 (4, 253), [(0, 1), (4, 253)], g)) rfl
    dsimp only at h
    obtain ⟨gz8, rz9, hk, h⟩ := zcallI zy_300 h rfl rfl zy_170 zk_170
    dsimp only at hk h
    have hO10 := h
    have h := hk
    clear hk
    have h := zm zy_170 h 4 (q := (6, darg 0 [(4, 253), (0, 1)], [(0, (-1))], cup g 253 2 1)) rfl
    dsimp only at h
    have h := zret zy_170 h rfl rfl
    obtain ⟨e1, e2⟩ := oI h
    have h := hO10
    rw [e1, e2] at h
    clear e1 e2
    clear hO10
    refine Or.inl (⟨Or.inl (hc7), ?_⟩)
    exact zret zy_300 h rfl rfl
  · have h := zm zy_208 h 6 (q := (cond (crel .ge a (g 254 1)) 18 14, darg 0 [(4, 253), (0, a)], [], g)) rfl
    dsimp only at h
    rcases zif_ge h with ⟨hc11, h⟩ | ⟨hc11, h⟩
    · have h := zm zy_208 h 1 (q := (19, darg 0 [(4, 253), (0, a)], [(0, 0)], g)) rfl
      dsimp only at h
      have h := zret zy_208 h rfl rfl
      obtain ⟨e1, e2⟩ := oI h
      have h := hO6
      rw [e1, e2] at h
      clear e1 e2
      clear hO6
      have h := zm zy_219 h 2 (q := (28, darg 0 [(4, 253), (0, a), (0, b), (0, c)], [(0, 0)], g)) rfl
      dsimp only at h
      have h := zret zy_219 h rfl rfl
      obtain ⟨e1, e2⟩ := oI h
      have h := hO3
      rw [e1, e2] at h
      clear e1 e2
      clear hO3
      have h := zm zy_300 h 3 (q := (27, dset (dset (dset (dset lf 3 (0, c)) 2 (0, b)) 1 (0, a)) 0 (4, 253), [(0, 1), (4, 253)], g)) rfl
      dsimp only at h
      obtain ⟨gz12, rz13, hk, h⟩ := zcallI zy_300 h rfl rfl zy_170 zk_170
      dsimp only at hk h
      have hO14 := h
      have h := hk
      clear hk
      have h := zm zy_170 h 4 (q := (6, darg 0 [(4, 253), (0, 1)], [(0, (-1))], cup g 253 2 1)) rfl
      dsimp only at h
      have h := zret zy_170 h rfl rfl
      obtain ⟨e1, e2⟩ := oI h
      have h := hO14
      rw [e1, e2] at h
      clear e1 e2
      clear hO14
      refine Or.inl (⟨Or.inr (Or.inl (⟨hc7, hc11⟩)), ?_⟩)
      exact zret zy_300 h rfl rfl
    · have h := zm zy_208 h 2 (q := (19, darg 0 [(4, 253), (0, a)], [(0, 1)], g)) rfl
      dsimp only at h
      have h := zret zy_208 h rfl rfl
      obtain ⟨e1, e2⟩ := oI h
      have h := hO6
      rw [e1, e2] at h
      clear e1 e2
      clear hO6
      have h := zm zy_219 h 3 (q := (10, darg 0 [(4, 253), (0, a), (0, b), (0, c)], [(0, b), (4, 253)], g)) rfl
      dsimp only at h
      obtain ⟨gz15, rz16, hk, h⟩ := zcallI zy_219 h rfl rfl zy_207 zk_207
      dsimp only at hk h
      have hO17 := h
      have h := hk
      clear hk
      have h := zm zy_207 h 2 (q := (cond (crel .lt b 0) 18 4, darg 0 [(4, 253), (0, b)], [], g)) rfl
      dsimp only at h
      rcases zif_lt h with ⟨hc18, h⟩ | ⟨hc18, h⟩
      · have h := zm zy_207 h 1 (q := (19, darg 0 [(4, 253), (0, b)], [(0, 0)], g)) rfl
        dsimp only at h
        have h := zret zy_207 h rfl rfl
        obtain ⟨e1, e2⟩ := oI h
        have h := hO17
        rw [e1, e2] at h
        clear e1 e2
        clear hO17
        have h := zm zy_219 h 2 (q := (28, darg 0 [(4, 253), (0, a), (0, b), (0, c)], [(0, 0)], g)) rfl
        dsimp only at h
        have h := zret zy_219 h rfl rfl
        obtain ⟨e1, e2⟩ := oI h
        have h := hO3
        rw [e1, e2] at h
        clear e1 e2
        clear hO3
        have h := zm zy_300 h 3 (q := (27, dset (dset (dset (dset lf 3 (0, c)) 2 (0, b)) 1 (0, a)) 0 (4, 253), [(0, 1), (4, 253)], g)) rfl
        dsimp only at h
        obtain ⟨gz19, rz20, hk, h⟩ := zcallI zy_300 h rfl rfl zy_170 zk_170
        dsimp only at hk h
        have hO21 := h
        have h := hk
        clear hk
        have h := zm zy_170 h 4 (q := (6, darg 0 [(4, 253), (0, 1)], [(0, (-1))], cup g 253 2 1)) rfl
        dsimp only at h
        have h := zret zy_170 h rfl rfl
        obtain ⟨e1, e2⟩ := oI h
        have h := hO21
        rw [e1, e2] at h
        clear e1 e2
        clear hO21
        refine Or.inl (⟨Or.inr (Or.inr (Or.inl (⟨hc7, hc11, hc18⟩))), ?_⟩)
        exact zret zy_300 h rfl rfl
      · have h := zm zy_207 h 6 (q := (cond (crel .ge b (g 254 0)) 18 14, darg 0 [(4, 253), (0, b)], [], g)) rfl
        dsimp only at h
        rcases zif_ge h with ⟨hc22, h⟩ | ⟨hc22, h⟩
        · have h := zm zy_207 h 1 (q := (19, darg 0 [(4, 253), (0, b)], [(0, 0)], g)) rfl
          dsimp only at h
          have h := zret zy_207 h rfl rfl
          obtain ⟨e1, e2⟩ := oI h
          have h := hO17
          rw [e1, e2] at h
          clear e1 e2
          clear hO17
          have h := zm zy_219 h 2 (q := (28, darg 0 [(4, 253), (0, a), (0, b), (0, c)], [(0, 0)], g)) rfl
          dsimp only at h
          have h := zret zy_219 h rfl rfl
          obtain ⟨e1, e2⟩ := oI h
          have h := hO3
          rw [e1, e2] at h
          clear e1 e2
          clear hO3
          have h := zm zy_300 h 3 (q := (27, dset (dset (dset (dset lf 3 (0, c)) 2 (0, b)) 1 (0, a)) 0 (4, 253), [(0, 1), (4, 253)], g)) rfl
          dsimp only at h
          obtain ⟨gz23, rz24, hk, h⟩ := zcallI zy_300 h rfl rfl zy_170 zk_170
          dsimp only at hk h
          have hO25 := h
          have h := hk
          clear hk
          have h := zm zy_170 h 4 (q := (6, darg 0 [(4, 253), (0, 1)], [(0, (-1))], cup g 253 2 1)) rfl
          dsimp only at h
          have h := zret zy_170 h rfl rfl
          obtain ⟨e1, e2⟩ := oI h
          have h := hO25
          rw [e1, e2] at h
          clear e1 e2
          clear hO25
          refine Or.inl (⟨Or.inr (Or.inr (Or.inr (Or.inl (⟨hc7, hc11, hc18, hc22⟩)))), ?_⟩)
          exact zret zy_300 h rfl rfl
        · have h := zm zy_207 h 2 (q := (19, darg 0 [(4, 253), (0, b)], [(0, 1)], g)) rfl
          dsimp only at h
          have h := zret zy_207 h rfl rfl
          obtain ⟨e1, e2⟩ := oI h
          have h := hO17
          rw [e1, e2] at h
          clear e1 e2
          clear hO17
          have h := zm zy_219 h 2 (q := (17, darg 0 [(4, 253), (0, a), (0, b), (0, c)], [(0, c)], g)) rfl
          dsimp only at h
          obtain ⟨gz26, rz27, hk, h⟩ := zcallI zy_219 h rfl rfl zy_216 zk_216
          dsimp only at hk h
          have hO28 := h
          have h := hk
          clear hk
          have h := zm zy_216 h 2 (q := (cond (crel .lt c 0) 14 4, darg 0 [(0, c)], [], g)) rfl
          dsimp only at h
          rcases zif_lt h with ⟨hc29, h⟩ | ⟨hc29, h⟩
          · have h := zm zy_216 h 1 (q := (15, darg 0 [(0, c)], [(0, 0)], g)) rfl
            dsimp only at h
            have h := zret zy_216 h rfl rfl
            obtain ⟨e1, e2⟩ := oI h
            have h := hO28
            rw [e1, e2] at h
            clear e1 e2
            clear hO28
            have h := zm zy_219 h 2 (q := (28, darg 0 [(4, 253), (0, a), (0, b), (0, c)], [(0, 0)], g)) rfl
            dsimp only at h
            have h := zret zy_219 h rfl rfl
            obtain ⟨e1, e2⟩ := oI h
            have h := hO3
            rw [e1, e2] at h
            clear e1 e2
            clear hO3
            have h := zm zy_300 h 3 (q := (27, dset (dset (dset (dset lf 3 (0, c)) 2 (0, b)) 1 (0, a)) 0 (4, 253), [(0, 1), (4, 253)], g)) rfl
            dsimp only at h
            obtain ⟨gz30, rz31, hk, h⟩ := zcallI zy_300 h rfl rfl zy_170 zk_170
            dsimp only at hk h
            have hO32 := h
            have h := hk
            clear hk
            have h := zm zy_170 h 4 (q := (6, darg 0 [(4, 253), (0, 1)], [(0, (-1))], cup g 253 2 1)) rfl
            dsimp only at h
            have h := zret zy_170 h rfl rfl
            obtain ⟨e1, e2⟩ := oI h
            have h := hO32
            rw [e1, e2] at h
            clear e1 e2
            clear hO32
            refine Or.inl (⟨Or.inr (Or.inr (Or.inr (Or.inr (Or.inl (⟨hc7, hc11, hc18, hc22, hc29⟩))))), ?_⟩)
            exact zret zy_300 h rfl rfl
          · have h := zm zy_216 h 3 (q := (cond (crel .ge c 8) 14 10, darg 0 [(0, c)], [], g)) rfl
            dsimp only at h
            rcases zif_ge h with ⟨hc33, h⟩ | ⟨hc33, h⟩
            · have h := zm zy_216 h 1 (q := (15, darg 0 [(0, c)], [(0, 0)], g)) rfl
              dsimp only at h
              have h := zret zy_216 h rfl rfl
              obtain ⟨e1, e2⟩ := oI h
              have h := hO28
              rw [e1, e2] at h
              clear e1 e2
              clear hO28
              have h := zm zy_219 h 2 (q := (28, darg 0 [(4, 253), (0, a), (0, b), (0, c)], [(0, 0)], g)) rfl
              dsimp only at h
              have h := zret zy_219 h rfl rfl
              obtain ⟨e1, e2⟩ := oI h
              have h := hO3
              rw [e1, e2] at h
              clear e1 e2
              clear hO3
              have h := zm zy_300 h 3 (q := (27, dset (dset (dset (dset lf 3 (0, c)) 2 (0, b)) 1 (0, a)) 0 (4, 253), [(0, 1), (4, 253)], g)) rfl
              dsimp only at h
              obtain ⟨gz34, rz35, hk, h⟩ := zcallI zy_300 h rfl rfl zy_170 zk_170
              dsimp only at hk h
              have hO36 := h
              have h := hk
              clear hk
              have h := zm zy_170 h 4 (q := (6, darg 0 [(4, 253), (0, 1)], [(0, (-1))], cup g 253 2 1)) rfl
              dsimp only at h
              have h := zret zy_170 h rfl rfl
              obtain ⟨e1, e2⟩ := oI h
              have h := hO36
              rw [e1, e2] at h
              clear e1 e2
              clear hO36
              refine Or.inl (⟨Or.inr (Or.inr (Or.inr (Or.inr (Or.inr (⟨hc7, hc11, hc18, hc22, hc29, hc33⟩))))), ?_⟩)
              exact zret zy_300 h rfl rfl
            · have h := zm zy_216 h 2 (q := (15, darg 0 [(0, c)], [(0, 1)], g)) rfl
              dsimp only at h
              have h := zret zy_216 h rfl rfl
              obtain ⟨e1, e2⟩ := oI h
              have h := hO28
              rw [e1, e2] at h
              clear e1 e2
              clear hO28
              have h := zm zy_219 h 3 (q := (28, darg 0 [(4, 253), (0, a), (0, b), (0, c)], [(0, 1)], g)) rfl
              dsimp only at h
              have h := zret zy_219 h rfl rfl
              obtain ⟨e1, e2⟩ := oI h
              have h := hO3
              rw [e1, e2] at h
              clear e1 e2
              clear hO3
              have h := zm zy_300 h 7 (q := (16, dset (dset (dset (dset lf 3 (0, c)) 2 (0, b)) 1 (0, a)) 0 (4, 253), [(0, (-1)), (0, c), (0, b), (0, a), (4, 253), (4, 253)], g)) rfl
              dsimp only at h
              obtain ⟨g_1, r_1, hk, h⟩ := zcallI zy_300 h rfl rfl zy_226 zk_226
              dsimp only at hk h
              refine Or.inr (⟨⟨hc7, hc11, hc18, hc22, hc29, hc33⟩, ?_⟩)
              refine ⟨g_1, r_1, hk, ?_⟩
              obtain ⟨gz37, rz38, hk, h⟩ := zcallI zy_300 h rfl rfl zy_192 zk_192
              dsimp only at hk h
              have hO39 := h
              have h := hk
              clear hk
              have h := zm zy_192 h 4 (q := (6, darg 0 [(4, 253), (0, r_1)], [(0, r_1)], cup g_1 253 2 0)) rfl
              dsimp only at h
              have h := zret zy_192 h rfl rfl
              obtain ⟨e1, e2⟩ := oI h
              have h := hO39
              rw [e1, e2] at h
              clear e1 e2
              clear hO39
              have h := zm zy_300 h 1 (q := (30, dset (dset (dset (dset lf 3 (0, c)) 2 (0, b)) 1 (0, a)) 0 (4, 253), [(0, r_1)], cup g_1 253 2 0)) rfl
              dsimp only at h
              exact zret zy_300 h rfl rfl
theorem t_a_dbt {sv : Nat → Int32} {L n : Nat} {lf : dlf} {g : cg} {o : cg × Option cv} {a : Int} (h : zr sv L n 331 0 lf [] g o) (hl0 : lf 0 = (4, 0)) (hl1 : lf 1 = (0, a)) : (((a < 0) ∨ (0 ≤ a ∧ g 3 3 ≤ a)) ∧ (o = (cup g 0 0 1, some (0, (-1))))) ∨ ((0 ≤ a ∧ a < g 3 3) ∧ (∃ g_1 r_1, zr sv L n 124 0 (darg 0 [(4, 3), (0, a)]) [] g (g_1, some (0, r_1)) ∧ (o = (cup g_1 0 0 0, some (0, r_1))))) := by
  rw [zov hl0, zov hl1] at h
  have h := zm zy_331 h 3 (q := (5, dset (dset lf 1 (0, a)) 0 (4, 0), [(0, a), (4, 3)], g)) rfl
  dsimp only at h
  obtain ⟨gz1, rz2, hk, h⟩ := zcallI zy_331 h rfl rfl zy_81 zk_81
  dsimp only at hk h
  have hO3 := h
  have h := hk
  clear hk
  have h := zm zy_81 h 2 (q := (cond (crel .lt a 0) 16 4, darg 0 [(4, 3), (0, a)], [], g)) rfl
  dsimp only at h
  rcases zif_lt h with ⟨hc4, h⟩ | ⟨hc4, h⟩
  · have h := zm zy_81 h 1 (q := (17, darg 0 [(4, 3), (0, a)], [(0, 0)], g)) rfl
    dsimp only at h
    have h := zret zy_81 h rfl rfl
    obtain ⟨e1, e2⟩ := oI h
    have h := hO3
    rw [e1, e2] at h
    clear e1 e2
    clear hO3
    have h := zm zy_331 h 3 (q := (28, dset (dset lf 1 (0, a)) 0 (4, 0), [(0, 1), (4, 0)], g)) rfl
    dsimp only at h
    obtain ⟨gz5, rz6, hk, h⟩ := zcallI zy_331 h rfl rfl zy_29 zk_29
    dsimp only at hk h
    have hO7 := h
    have h := hk
    clear hk
    have h := zm zy_29 h 4 (q := (6, darg 0 [(4, 0), (0, 1)], [(0, (-1))], cup g 0 0 1)) rfl
    dsimp only at h
    have h := zret zy_29 h rfl rfl
    obtain ⟨e1, e2⟩ := oI h
    have h := hO7
    rw [e1, e2] at h
    clear e1 e2
    clear hO7
    refine Or.inl (⟨Or.inl (hc4), ?_⟩)
    exact zret zy_331 h rfl rfl
  · have h := zm zy_81 h 4 (q := (cond (crel .ge a (g 3 3)) 16 12, darg 0 [(4, 3), (0, a)], [], g)) rfl
    dsimp only at h
    rcases zif_ge h with ⟨hc8, h⟩ | ⟨hc8, h⟩
    · have h := zm zy_81 h 1 (q := (17, darg 0 [(4, 3), (0, a)], [(0, 0)], g)) rfl
      dsimp only at h
      have h := zret zy_81 h rfl rfl
      obtain ⟨e1, e2⟩ := oI h
      have h := hO3
      rw [e1, e2] at h
      clear e1 e2
      clear hO3
      have h := zm zy_331 h 3 (q := (28, dset (dset lf 1 (0, a)) 0 (4, 0), [(0, 1), (4, 0)], g)) rfl
      dsimp only at h
      obtain ⟨gz9, rz10, hk, h⟩ := zcallI zy_331 h rfl rfl zy_29 zk_29
      dsimp only at hk h
      have hO11 := h
      have h := hk
      clear hk
      have h := zm zy_29 h 4 (q := (6, darg 0 [(4, 0), (0, 1)], [(0, (-1))], cup g 0 0 1)) rfl
      dsimp only at h
      have h := zret zy_29 h rfl rfl
      obtain ⟨e1, e2⟩ := oI h
      have h := hO11
      rw [e1, e2] at h
      clear e1 e2
      clear hO11
      refine Or.inl (⟨Or.inr (⟨hc4, hc8⟩), ?_⟩)
      exact zret zy_331 h rfl rfl
    · have h := zm zy_81 h 2 (q := (17, darg 0 [(4, 3), (0, a)], [(0, 1)], g)) rfl
      dsimp only at h
      have h := zret zy_81 h rfl rfl
      obtain ⟨e1, e2⟩ := oI h
      have h := hO3
      rw [e1, e2] at h
      clear e1 e2
      clear hO3
      have h := zm zy_331 h 5 (q := (17, dset (dset lf 1 (0, a)) 0 (4, 0), [(0, a), (4, 3), (4, 0)], g)) rfl
      dsimp only at h
      obtain ⟨g_1, r_1, hk, h⟩ := zcallI zy_331 h rfl rfl zy_124 zk_124
      dsimp only at hk h
      refine Or.inr (⟨⟨hc4, hc8⟩, ?_⟩)
      refine ⟨g_1, r_1, hk, ?_⟩
      obtain ⟨gz12, rz13, hk, h⟩ := zcallI zy_331 h rfl rfl zy_64 zk_64
      dsimp only at hk h
      have hO14 := h
      have h := hk
      clear hk
      have h := zm zy_64 h 4 (q := (6, darg 0 [(4, 0), (0, r_1)], [(0, r_1)], cup g_1 0 0 0)) rfl
      dsimp only at h
      have h := zret zy_64 h rfl rfl
      obtain ⟨e1, e2⟩ := oI h
      have h := hO14
      rw [e1, e2] at h
      clear e1 e2
      clear hO14
      have h := zm zy_331 h 1 (q := (31, dset (dset lf 1 (0, a)) 0 (4, 0), [(0, r_1)], cup g_1 0 0 0)) rfl
      dsimp only at h
      exact zret zy_331 h rfl rfl
theorem m_a_dbt {sv : Nat → Int32} {L n : Nat} {lf : dlf} {g : cg} {o : cg × Option cv} {a : Int} (h : zr sv L n 332 0 lf [] g o) (hl0 : lf 0 = (4, 253)) (hl1 : lf 1 = (0, a)) : (((a < 0) ∨ (0 ≤ a ∧ g 254 1 ≤ a)) ∧ (o = (cup g 253 2 1, some (0, (-1))))) ∨ ((0 ≤ a ∧ a < g 254 1) ∧ (∃ g_1 r_1, zr sv L n 222 0 (darg 0 [(4, 253), (0, a)]) [] g (g_1, some (0, r_1)) ∧ (o = (cup g_1 253 2 0, some (0, r_1))))) := by
  rw [zov hl0, zov hl1] at h
  have h := zm zy_332 h 2 (q := (2, dset (dset lf 1 (0, a)) 0 (4, 253), [(0, a), (4, 253)], g)) rfl
  dsimp only at h
  obtain ⟨gz1, rz2, hk, h⟩ := zcallI zy_332 h rfl rfl zy_208 zk_208
  dsimp only at hk h
  have hO3 := h
  have h := hk
  clear hk
  have h := zm zy_208 h 2 (q := (cond (crel .lt a 0) 18 4, darg 0 [(4, 253), (0, a)], [], g)) rfl
  dsimp only at h
  rcases zif_lt h with ⟨hc4, h⟩ | ⟨hc4, h⟩
  · have h := zm zy_208 h 1 (q := (19, darg 0 [(4, 253), (0, a)], [(0, 0)], g)) rfl
    dsimp only at h
    have h := zret zy_208 h rfl rfl
    obtain ⟨e1, e2⟩ := oI h
    have h := hO3
    rw [e1, e2] at h
    clear e1 e2
    clear hO3
    have h := zm zy_332 h 3 (q := (22, dset (dset lf 1 (0, a)) 0 (4, 253), [(0, 1), (4, 253)], g)) rfl
    dsimp only at h
    obtain ⟨gz5, rz6, hk, h⟩ := zcallI zy_332 h rfl rfl zy_170 zk_170
    dsimp only at hk h
    have hO7 := h
    have h := hk
    clear hk
    have h := zm zy_170 h 4 (q := (6, darg 0 [(4, 253), (0, 1)], [(0, (-1))], cup g 253 2 1)) rfl
    dsimp only at h
    have h := zret zy_170 h rfl rfl
    obtain ⟨e1, e2⟩ := oI h
    have h := hO7
    rw [e1, e2] at h
    clear e1 e2
    clear hO7
    refine Or.inl (⟨Or.inl (hc4), ?_⟩)
    exact zret zy_332 h rfl rfl
  · have h := zm zy_208 h 6 (q := (cond (crel .ge a (g 254 1)) 18 14, darg 0 [(4, 253), (0, a)], [], g)) rfl
    dsimp only at h
    rcases zif_ge h with ⟨hc8, h⟩ | ⟨hc8, h⟩
    · have h := zm zy_208 h 1 (q := (19, darg 0 [(4, 253), (0, a)], [(0, 0)], g)) rfl
      dsimp only at h
      have h := zret zy_208 h rfl rfl
      obtain ⟨e1, e2⟩ := oI h
      have h := hO3
      rw [e1, e2] at h
      clear e1 e2
      clear hO3
      have h := zm zy_332 h 3 (q := (22, dset (dset lf 1 (0, a)) 0 (4, 253), [(0, 1), (4, 253)], g)) rfl
      dsimp only at h
      obtain ⟨gz9, rz10, hk, h⟩ := zcallI zy_332 h rfl rfl zy_170 zk_170
      dsimp only at hk h
      have hO11 := h
      have h := hk
      clear hk
      have h := zm zy_170 h 4 (q := (6, darg 0 [(4, 253), (0, 1)], [(0, (-1))], cup g 253 2 1)) rfl
      dsimp only at h
      have h := zret zy_170 h rfl rfl
      obtain ⟨e1, e2⟩ := oI h
      have h := hO11
      rw [e1, e2] at h
      clear e1 e2
      clear hO11
      refine Or.inl (⟨Or.inr (⟨hc4, hc8⟩), ?_⟩)
      exact zret zy_332 h rfl rfl
    · have h := zm zy_208 h 2 (q := (19, darg 0 [(4, 253), (0, a)], [(0, 1)], g)) rfl
      dsimp only at h
      have h := zret zy_208 h rfl rfl
      obtain ⟨e1, e2⟩ := oI h
      have h := hO3
      rw [e1, e2] at h
      clear e1 e2
      clear hO3
      have h := zm zy_332 h 4 (q := (11, dset (dset lf 1 (0, a)) 0 (4, 253), [(0, a), (4, 253), (4, 253)], g)) rfl
      dsimp only at h
      obtain ⟨g_1, r_1, hk, h⟩ := zcallI zy_332 h rfl rfl zy_222 zk_222
      dsimp only at hk h
      refine Or.inr (⟨⟨hc4, hc8⟩, ?_⟩)
      refine ⟨g_1, r_1, hk, ?_⟩
      obtain ⟨gz12, rz13, hk, h⟩ := zcallI zy_332 h rfl rfl zy_192 zk_192
      dsimp only at hk h
      have hO14 := h
      have h := hk
      clear hk
      have h := zm zy_192 h 4 (q := (6, darg 0 [(4, 253), (0, r_1)], [(0, r_1)], cup g_1 253 2 0)) rfl
      dsimp only at h
      have h := zret zy_192 h rfl rfl
      obtain ⟨e1, e2⟩ := oI h
      have h := hO14
      rw [e1, e2] at h
      clear e1 e2
      clear hO14
      have h := zm zy_332 h 1 (q := (25, dset (dset lf 1 (0, a)) 0 (4, 253), [(0, r_1)], cup g_1 253 2 0)) rfl
      dsimp only at h
      exact zret zy_332 h rfl rfl
theorem t_say0 {sv : Nat → Int32} {L n : Nat} {lf : dlf} {g : cg} {o : cg × Option cv} {P Q T : Nat} (rP : P ≤ 5) (rQ : Q ≤ 4) (rT : T ≤ 7) (h : zr sv L n 98 0 lf [] g o) (hl0 : lf 0 = (4, 3)) (hl1 : lf 1 = (0, (P : Int))) (hl2 : lf 2 = (0, (Q : Int))) (hl3 : lf 3 = (0, (T : Int))) : ∃ lf', lf' 0 = (4, 3) ∧ lf' 1 = (0, (P : Int)) ∧ lf' 2 = (0, (Q : Int)) ∧ lf' 3 = (0, (T : Int)) ∧ lf' 4 = (0, 0) ∧ lf' 5 = (0, 0) ∧ zr sv L n 98 6 lf' [] g o := by
  rw [zov hl0, zov hl1, zov hl2, zov hl3] at h
  have h := zm zy_98 h 4 (q := (6, dset (dset (dset (dset (dset (dset lf 3 (0, (T : Int))) 2 (0, (Q : Int))) 1 (0, (P : Int))) 0 (4, 3)) 4 (0, 0)) 5 (0, 0), [], g)) rfl
  dsimp only at h
  exact ⟨_, rfl, rfl, rfl, rfl, rfl, rfl, h⟩
theorem t_say_s {sv : Nat → Int32} {L n : Nat} {lf : dlf} {g : cg} {o : cg × Option cv} {P Q T c w p q t k N : Nat} {f s b : Int} (rP : P ≤ 5) (rQ : Q ≤ 4) (rT : T ≤ 7) (rc : c ≤ 15) (rw : w ≤ 5) (rp : p ≤ 5) (rq : q ≤ 4) (rt : t ≤ 7) (rk : k ≤ 15) (rN : N ≤ 16) (hN : g 3 9 = (N : Int)) (hO : OHC g k w p q t f s b) (hlt : k < N) (h : zr sv L (n + 1) 98 6 lf [] g o) (hl0 : lf 0 = (4, 3)) (hl1 : lf 1 = (0, (P : Int))) (hl2 : lf 2 = (0, (Q : Int))) (hl3 : lf 3 = (0, (T : Int))) (hl4 : lf 4 = (0, (c : Int))) (hl5 : lf 5 = (0, (k : Int))) : (((s ≠ 0) ∨ (s = 0 ∧ (p : Int) ≠ (P : Int)) ∨ (s = 0 ∧ (p : Int) = (P : Int) ∧ (t : Int) ≠ (T : Int)) ∨ (s = 0 ∧ (p : Int) = (P : Int) ∧ (t : Int) = (T : Int) ∧ (q : Int) ≠ (Q : Int))) ∧ (∃ lf', lf' 0 = (4, 3) ∧ lf' 1 = (0, (P : Int)) ∧ lf' 2 = (0, (Q : Int)) ∧ lf' 3 = (0, (T : Int)) ∧ lf' 4 = (0, (c : Int)) ∧ lf' 5 = (0, 1 + (k : Int)) ∧ zr sv L n 98 6 lf' [] g o)) ∨ ((s = 0 ∧ (p : Int) = (P : Int) ∧ (t : Int) = (T : Int) ∧ (q : Int) = (Q : Int)) ∧ (∃ lf', lf' 0 = (4, 3) ∧ lf' 1 = (0, (P : Int)) ∧ lf' 2 = (0, (Q : Int)) ∧ lf' 3 = (0, (T : Int)) ∧ lf' 4 = (0, 1 + (c : Int)) ∧ lf' 5 = (0, 1 + (k : Int)) ∧ zr sv L n 98 6 lf' [] g o)) := by
  rw [zov hl0, zov hl1, zov hl2, zov hl3, zov hl4, zov hl5] at h
  have h := zm1 zy_98 h 3 (q := (cond (crel .ge ((k : Int)) (g 3 9)) 53 15, dset (dset (dset (dset (dset (dset lf 5 (0, (k : Int))) 4 (0, (c : Int))) 3 (0, (T : Int))) 2 (0, (Q : Int))) 1 (0, (P : Int))) 0 (4, 3), [], g)) rfl
  dsimp only at h
  try rw [hN] at h
  rcases zif_ge h with ⟨hc1, h⟩ | ⟨hc1, h⟩
  · exact absurd hc1 (by omega)
  · have h := zm zy_98 h 3 (q := (21, dset (dset (dset (dset (dset (dset lf 5 (0, (k : Int))) 4 (0, (c : Int))) 3 (0, (T : Int))) 2 (0, (Q : Int))) 1 (0, (P : Int))) 0 (4, 3), [(0, (k : Int)), (4, 7)], g)) rfl
    dsimp only at h
    have h := zald zy_98 h rfl rfl (dvp_7 (i := (k : Int)) (by omega) (by omega))
    dsimp only at h
    have h := zm zy_98 h 2 (q := (24, dset (dset (dset (dset (dset (dset lf 5 (0, (k : Int))) 4 (0, (c : Int))) 3 (0, (T : Int))) 2 (0, (Q : Int))) 1 (0, (P : Int))) 0 (4, 3), [(0, (T : Int)), (0, (P : Int)), (4, 29 + ((k : Int)))], g)) rfl
    dsimp only at h
    obtain ⟨gz2, rz3, hk, h⟩ := zcallI zy_98 h rfl rfl zy_99 zk_99
    dsimp only at hk h
    have hO4 := h
    have h := hk
    clear hk
    have h := zm zy_99 h 1 (q := (1, darg 0 [(4, 29 + ((k : Int))), (0, (P : Int)), (0, (T : Int))], [(4, 29 + ((k : Int)))], g)) rfl
    dsimp only at h
    have h := zgf zy_99 h rfl rfl (dvf_29_5 (i := (k : Int)) (by omega) (by omega))
    dsimp only at h
    try rw [show (29 + ((k : Int))).toNat = 29 + k from by omega] at h
    try rw [hO.2.2.2.2.2.1] at h
    have h := zm zy_99 h 1 (q := (cond (crel .ne s 0) 27 7, darg 0 [(4, 29 + ((k : Int))), (0, (P : Int)), (0, (T : Int))], [], g)) rfl
    dsimp only at h
    rcases zif_ne h with ⟨hc5, h⟩ | ⟨hc5, h⟩
    · have h := zm zy_99 h 1 (q := (28, darg 0 [(4, 29 + ((k : Int))), (0, (P : Int)), (0, (T : Int))], [(0, 0)], g)) rfl
      dsimp only at h
      have h := zret zy_99 h rfl rfl
      obtain ⟨e1, e2⟩ := oI h
      have h := hO4
      rw [e1, e2] at h
      clear e1 e2
      clear hO4
      have h := zm zy_98 h 3 (q := (6, dset (dset (dset (dset (dset (dset (dset lf 5 (0, (k : Int))) 4 (0, (c : Int))) 3 (0, (T : Int))) 2 (0, (Q : Int))) 1 (0, (P : Int))) 0 (4, 3)) 5 (0, w32 (((k : Int)) + 1)), [], g)) rfl
      dsimp only at h
      try rw [w32_eq (z := ((k : Int)) + 1) (v := 1 + (k : Int)) (by omega) (by omega) (by omega)] at h
      refine Or.inl (⟨Or.inl (hc5), ?_⟩)
      exact ⟨_, rfl, rfl, rfl, rfl, rfl, rfl, h⟩
    · have h := zm zy_99 h 1 (q := (8, darg 0 [(4, 29 + ((k : Int))), (0, (P : Int)), (0, (T : Int))], [(4, 29 + ((k : Int)))], g)) rfl
      dsimp only at h
      have h := zgf zy_99 h rfl rfl (dvf_29_1 (i := (k : Int)) (by omega) (by omega))
      dsimp only at h
      try rw [show (29 + ((k : Int))).toNat = 29 + k from by omega] at h
      try rw [hO.2.1] at h
      have h := zm zy_99 h 2 (q := (cond (crel .ne ((p : Int)) ((P : Int))) 27 15, darg 0 [(4, 29 + ((k : Int))), (0, (P : Int)), (0, (T : Int))], [], g)) rfl
      dsimp only at h
      rcases zif_ne h with ⟨hc7, h⟩ | ⟨hc7, h⟩
      · have h := zm zy_99 h 1 (q := (28, darg 0 [(4, 29 + ((k : Int))), (0, (P : Int)), (0, (T : Int))], [(0, 0)], g)) rfl
        dsimp only at h
        have h := zret zy_99 h rfl rfl
        obtain ⟨e1, e2⟩ := oI h
        have h := hO4
        rw [e1, e2] at h
        clear e1 e2
        clear hO4
        have h := zm zy_98 h 3 (q := (6, dset (dset (dset (dset (dset (dset (dset lf 5 (0, (k : Int))) 4 (0, (c : Int))) 3 (0, (T : Int))) 2 (0, (Q : Int))) 1 (0, (P : Int))) 0 (4, 3)) 5 (0, w32 (((k : Int)) + 1)), [], g)) rfl
        dsimp only at h
        try rw [w32_eq (z := ((k : Int)) + 1) (v := 1 + (k : Int)) (by omega) (by omega) (by omega)] at h
        refine Or.inl (⟨Or.inr (Or.inl (⟨hc5, hc7⟩)), ?_⟩)
        exact ⟨_, rfl, rfl, rfl, rfl, rfl, rfl, h⟩
      · have h := zm zy_99 h 1 (q := (16, darg 0 [(4, 29 + ((k : Int))), (0, (P : Int)), (0, (T : Int))], [(4, 29 + ((k : Int)))], g)) rfl
        dsimp only at h
        have h := zgf zy_99 h rfl rfl (dvf_29_3 (i := (k : Int)) (by omega) (by omega))
        dsimp only at h
        try rw [show (29 + ((k : Int))).toNat = 29 + k from by omega] at h
        try rw [hO.2.2.2.1] at h
        have h := zm zy_99 h 2 (q := (cond (crel .ne ((t : Int)) ((T : Int))) 27 23, darg 0 [(4, 29 + ((k : Int))), (0, (P : Int)), (0, (T : Int))], [], g)) rfl
        dsimp only at h
        rcases zif_ne h with ⟨hc9, h⟩ | ⟨hc9, h⟩
        · have h := zm zy_99 h 1 (q := (28, darg 0 [(4, 29 + ((k : Int))), (0, (P : Int)), (0, (T : Int))], [(0, 0)], g)) rfl
          dsimp only at h
          have h := zret zy_99 h rfl rfl
          obtain ⟨e1, e2⟩ := oI h
          have h := hO4
          rw [e1, e2] at h
          clear e1 e2
          clear hO4
          have h := zm zy_98 h 3 (q := (6, dset (dset (dset (dset (dset (dset (dset lf 5 (0, (k : Int))) 4 (0, (c : Int))) 3 (0, (T : Int))) 2 (0, (Q : Int))) 1 (0, (P : Int))) 0 (4, 3)) 5 (0, w32 (((k : Int)) + 1)), [], g)) rfl
          dsimp only at h
          try rw [w32_eq (z := ((k : Int)) + 1) (v := 1 + (k : Int)) (by omega) (by omega) (by omega)] at h
          refine Or.inl (⟨Or.inr (Or.inr (Or.inl (⟨hc5, hc7, hc9⟩))), ?_⟩)
          exact ⟨_, rfl, rfl, rfl, rfl, rfl, rfl, h⟩
        · have h := zm zy_99 h 2 (q := (28, darg 0 [(4, 29 + ((k : Int))), (0, (P : Int)), (0, (T : Int))], [(0, 1)], g)) rfl
          dsimp only at h
          have h := zret zy_99 h rfl rfl
          obtain ⟨e1, e2⟩ := oI h
          have h := hO4
          rw [e1, e2] at h
          clear e1 e2
          clear hO4
          have h := zm zy_98 h 4 (q := (36, dset (dset (dset (dset (dset (dset lf 5 (0, (k : Int))) 4 (0, (c : Int))) 3 (0, (T : Int))) 2 (0, (Q : Int))) 1 (0, (P : Int))) 0 (4, 3), [(0, (k : Int)), (4, 7)], g)) rfl
          dsimp only at h
          have h := zald zy_98 h rfl rfl (dvp_7 (i := (k : Int)) (by omega) (by omega))
          dsimp only at h
          have h := zgf zy_98 h rfl rfl (dvf_29_2 (i := (k : Int)) (by omega) (by omega))
          dsimp only at h
          try rw [show (29 + ((k : Int))).toNat = 29 + k from by omega] at h
          try rw [hO.2.2.1] at h
          have h := zm zy_98 h 2 (q := (cond (crel .ne ((q : Int)) ((Q : Int))) 47 44, dset (dset (dset (dset (dset (dset lf 5 (0, (k : Int))) 4 (0, (c : Int))) 3 (0, (T : Int))) 2 (0, (Q : Int))) 1 (0, (P : Int))) 0 (4, 3), [], g)) rfl
          dsimp only at h
          rcases zif_ne h with ⟨hc11, h⟩ | ⟨hc11, h⟩
          · have h := zm zy_98 h 2 (q := (6, dset (dset (dset (dset (dset (dset (dset lf 5 (0, (k : Int))) 4 (0, (c : Int))) 3 (0, (T : Int))) 2 (0, (Q : Int))) 1 (0, (P : Int))) 0 (4, 3)) 5 (0, w32 (((k : Int)) + 1)), [], g)) rfl
            dsimp only at h
            try rw [w32_eq (z := ((k : Int)) + 1) (v := 1 + (k : Int)) (by omega) (by omega) (by omega)] at h
            refine Or.inl (⟨Or.inr (Or.inr (Or.inr (⟨hc5, hc7, hc9, hc11⟩))), ?_⟩)
            exact ⟨_, rfl, rfl, rfl, rfl, rfl, rfl, h⟩
          · have h := zm zy_98 h 3 (q := (6, dset (dset (dset (dset (dset (dset (dset (dset lf 5 (0, (k : Int))) 4 (0, (c : Int))) 3 (0, (T : Int))) 2 (0, (Q : Int))) 1 (0, (P : Int))) 0 (4, 3)) 4 (0, w32 (((c : Int)) + 1))) 5 (0, w32 (((k : Int)) + 1)), [], g)) rfl
            dsimp only at h
            try rw [w32_eq (z := ((c : Int)) + 1) (v := 1 + (c : Int)) (by omega) (by omega) (by omega)] at h
            try rw [w32_eq (z := ((k : Int)) + 1) (v := 1 + (k : Int)) (by omega) (by omega) (by omega)] at h
            refine Or.inr (⟨⟨hc5, hc7, hc9, hc11⟩, ?_⟩)
            exact ⟨_, rfl, rfl, rfl, rfl, rfl, rfl, h⟩
theorem t_say_e {sv : Nat → Int32} {L n : Nat} {lf : dlf} {g : cg} {o : cg × Option cv} {P Q T c k N : Nat} (rP : P ≤ 5) (rQ : Q ≤ 4) (rT : T ≤ 7) (rc : c ≤ 16) (rk : k ≤ 16) (rN : N ≤ 16) (hN : g 3 9 = (N : Int)) (hge : N ≤ k) (h : zr sv L (n + 1) 98 6 lf [] g o) (hl0 : lf 0 = (4, 3)) (hl1 : lf 1 = (0, (P : Int))) (hl2 : lf 2 = (0, (Q : Int))) (hl3 : lf 3 = (0, (T : Int))) (hl4 : lf 4 = (0, (c : Int))) (hl5 : lf 5 = (0, (k : Int))) : o = (g, some (0, (c : Int))) := by
  rw [zov hl0, zov hl1, zov hl2, zov hl3, zov hl4, zov hl5] at h
  have h := zm1 zy_98 h 3 (q := (cond (crel .ge ((k : Int)) (g 3 9)) 53 15, dset (dset (dset (dset (dset (dset lf 5 (0, (k : Int))) 4 (0, (c : Int))) 3 (0, (T : Int))) 2 (0, (Q : Int))) 1 (0, (P : Int))) 0 (4, 3), [], g)) rfl
  dsimp only at h
  try rw [hN] at h
  rcases zif_ge h with ⟨hc1, h⟩ | ⟨hc1, h⟩
  · have h := zm zy_98 h 1 (q := (55, dset (dset (dset (dset (dset (dset lf 5 (0, (k : Int))) 4 (0, (c : Int))) 3 (0, (T : Int))) 2 (0, (Q : Int))) 1 (0, (P : Int))) 0 (4, 3), [(0, (c : Int))], g)) rfl
    dsimp only at h
    exact zret zy_98 h rfl rfl
  · exact absurd hc1 (by omega)
theorem t_plc0 {sv : Nat → Int32} {L n : Nat} {lf : dlf} {g : cg} {o : cg × Option cv} {P T : Nat} (rP : P ≤ 5) (rT : T ≤ 7) (h : zr sv L n 125 0 lf [] g o) (hl0 : lf 0 = (4, 3)) (hl1 : lf 1 = (0, (P : Int))) (hl2 : lf 2 = (0, (T : Int))) : ∃ lf', lf' 0 = (4, 3) ∧ lf' 1 = (0, (P : Int)) ∧ lf' 2 = (0, (T : Int)) ∧ lf' 3 = (0, 0) ∧ lf' 4 = (0, 0) ∧ zr sv L n 125 5 lf' [] g o := by
  rw [zov hl0, zov hl1, zov hl2] at h
  have h := zm zy_125 h 4 (q := (5, dset (dset (dset (dset (dset lf 2 (0, (T : Int))) 1 (0, (P : Int))) 0 (4, 3)) 3 (0, 0)) 4 (0, 0), [], g)) rfl
  dsimp only at h
  exact ⟨_, rfl, rfl, rfl, rfl, rfl, h⟩
theorem t_plc_s {sv : Nat → Int32} {L n : Nat} {lf : dlf} {g : cg} {o : cg × Option cv} {P T w p q t k N : Nat} {f s b u : Int} (rP : P ≤ 5) (rT : T ≤ 7) (rw : w ≤ 5) (rp : p ≤ 5) (rq : q ≤ 4) (rt : t ≤ 7) (rk : k ≤ 15) (rN : N ≤ 16) (hN : g 3 9 = (N : Int)) (hO : OHC g k w p q t f s b) (hlt : k < N) (h : zr sv L (n + 1) 125 5 lf [] g o) (hl0 : lf 0 = (4, 3)) (hl1 : lf 1 = (0, (P : Int))) (hl2 : lf 2 = (0, (T : Int))) (hl3 : lf 3 = (0, u)) (hl4 : lf 4 = (0, (k : Int))) : (((s ≠ 0) ∨ (s = 0 ∧ (p : Int) ≠ (P : Int)) ∨ (s = 0 ∧ (p : Int) = (P : Int) ∧ (t : Int) ≠ (T : Int))) ∧ (∃ lf', lf' 0 = (4, 3) ∧ lf' 1 = (0, (P : Int)) ∧ lf' 2 = (0, (T : Int)) ∧ lf' 3 = (0, u) ∧ lf' 4 = (0, 1 + (k : Int)) ∧ zr sv L n 125 5 lf' [] g o)) ∨ ((s = 0 ∧ (p : Int) = (P : Int) ∧ (t : Int) = (T : Int)) ∧ (∃ lf', lf' 0 = (4, 3) ∧ lf' 1 = (0, (P : Int)) ∧ lf' 2 = (0, (T : Int)) ∧ lf' 3 = (0, bor u (bsl 1 ((q : Int)))) ∧ lf' 4 = (0, 1 + (k : Int)) ∧ zr sv L n 125 5 lf' [] g o)) := by
  rw [zov hl0, zov hl1, zov hl2, zov hl3, zov hl4] at h
  have h := zm1 zy_125 h 3 (q := (cond (crel .ge ((k : Int)) (g 3 9)) 50 14, dset (dset (dset (dset (dset lf 4 (0, (k : Int))) 3 (0, u)) 2 (0, (T : Int))) 1 (0, (P : Int))) 0 (4, 3), [], g)) rfl
  dsimp only at h
  try rw [hN] at h
  rcases zif_ge h with ⟨hc1, h⟩ | ⟨hc1, h⟩
  · exact absurd hc1 (by omega)
  · have h := zm zy_125 h 3 (q := (20, dset (dset (dset (dset (dset lf 4 (0, (k : Int))) 3 (0, u)) 2 (0, (T : Int))) 1 (0, (P : Int))) 0 (4, 3), [(0, (k : Int)), (4, 7)], g)) rfl
    dsimp only at h
    have h := zald zy_125 h rfl rfl (dvp_7 (i := (k : Int)) (by omega) (by omega))
    dsimp only at h
    have h := zm zy_125 h 2 (q := (23, dset (dset (dset (dset (dset lf 4 (0, (k : Int))) 3 (0, u)) 2 (0, (T : Int))) 1 (0, (P : Int))) 0 (4, 3), [(0, (T : Int)), (0, (P : Int)), (4, 29 + ((k : Int)))], g)) rfl
    dsimp only at h
    obtain ⟨gz2, rz3, hk, h⟩ := zcallI zy_125 h rfl rfl zy_99 zk_99
    dsimp only at hk h
    have hO4 := h
    have h := hk
    clear hk
    have h := zm zy_99 h 1 (q := (1, darg 0 [(4, 29 + ((k : Int))), (0, (P : Int)), (0, (T : Int))], [(4, 29 + ((k : Int)))], g)) rfl
    dsimp only at h
    have h := zgf zy_99 h rfl rfl (dvf_29_5 (i := (k : Int)) (by omega) (by omega))
    dsimp only at h
    try rw [show (29 + ((k : Int))).toNat = 29 + k from by omega] at h
    try rw [hO.2.2.2.2.2.1] at h
    have h := zm zy_99 h 1 (q := (cond (crel .ne s 0) 27 7, darg 0 [(4, 29 + ((k : Int))), (0, (P : Int)), (0, (T : Int))], [], g)) rfl
    dsimp only at h
    rcases zif_ne h with ⟨hc5, h⟩ | ⟨hc5, h⟩
    · have h := zm zy_99 h 1 (q := (28, darg 0 [(4, 29 + ((k : Int))), (0, (P : Int)), (0, (T : Int))], [(0, 0)], g)) rfl
      dsimp only at h
      have h := zret zy_99 h rfl rfl
      obtain ⟨e1, e2⟩ := oI h
      have h := hO4
      rw [e1, e2] at h
      clear e1 e2
      clear hO4
      have h := zm zy_125 h 3 (q := (5, dset (dset (dset (dset (dset (dset lf 4 (0, (k : Int))) 3 (0, u)) 2 (0, (T : Int))) 1 (0, (P : Int))) 0 (4, 3)) 4 (0, w32 (((k : Int)) + 1)), [], g)) rfl
      dsimp only at h
      try rw [w32_eq (z := ((k : Int)) + 1) (v := 1 + (k : Int)) (by omega) (by omega) (by omega)] at h
      refine Or.inl (⟨Or.inl (hc5), ?_⟩)
      exact ⟨_, rfl, rfl, rfl, rfl, rfl, h⟩
    · have h := zm zy_99 h 1 (q := (8, darg 0 [(4, 29 + ((k : Int))), (0, (P : Int)), (0, (T : Int))], [(4, 29 + ((k : Int)))], g)) rfl
      dsimp only at h
      have h := zgf zy_99 h rfl rfl (dvf_29_1 (i := (k : Int)) (by omega) (by omega))
      dsimp only at h
      try rw [show (29 + ((k : Int))).toNat = 29 + k from by omega] at h
      try rw [hO.2.1] at h
      have h := zm zy_99 h 2 (q := (cond (crel .ne ((p : Int)) ((P : Int))) 27 15, darg 0 [(4, 29 + ((k : Int))), (0, (P : Int)), (0, (T : Int))], [], g)) rfl
      dsimp only at h
      rcases zif_ne h with ⟨hc7, h⟩ | ⟨hc7, h⟩
      · have h := zm zy_99 h 1 (q := (28, darg 0 [(4, 29 + ((k : Int))), (0, (P : Int)), (0, (T : Int))], [(0, 0)], g)) rfl
        dsimp only at h
        have h := zret zy_99 h rfl rfl
        obtain ⟨e1, e2⟩ := oI h
        have h := hO4
        rw [e1, e2] at h
        clear e1 e2
        clear hO4
        have h := zm zy_125 h 3 (q := (5, dset (dset (dset (dset (dset (dset lf 4 (0, (k : Int))) 3 (0, u)) 2 (0, (T : Int))) 1 (0, (P : Int))) 0 (4, 3)) 4 (0, w32 (((k : Int)) + 1)), [], g)) rfl
        dsimp only at h
        try rw [w32_eq (z := ((k : Int)) + 1) (v := 1 + (k : Int)) (by omega) (by omega) (by omega)] at h
        refine Or.inl (⟨Or.inr (Or.inl (⟨hc5, hc7⟩)), ?_⟩)
        exact ⟨_, rfl, rfl, rfl, rfl, rfl, h⟩
      · have h := zm zy_99 h 1 (q := (16, darg 0 [(4, 29 + ((k : Int))), (0, (P : Int)), (0, (T : Int))], [(4, 29 + ((k : Int)))], g)) rfl
        dsimp only at h
        have h := zgf zy_99 h rfl rfl (dvf_29_3 (i := (k : Int)) (by omega) (by omega))
        dsimp only at h
        try rw [show (29 + ((k : Int))).toNat = 29 + k from by omega] at h
        try rw [hO.2.2.2.1] at h
        have h := zm zy_99 h 2 (q := (cond (crel .ne ((t : Int)) ((T : Int))) 27 23, darg 0 [(4, 29 + ((k : Int))), (0, (P : Int)), (0, (T : Int))], [], g)) rfl
        dsimp only at h
        rcases zif_ne h with ⟨hc9, h⟩ | ⟨hc9, h⟩
        · have h := zm zy_99 h 1 (q := (28, darg 0 [(4, 29 + ((k : Int))), (0, (P : Int)), (0, (T : Int))], [(0, 0)], g)) rfl
          dsimp only at h
          have h := zret zy_99 h rfl rfl
          obtain ⟨e1, e2⟩ := oI h
          have h := hO4
          rw [e1, e2] at h
          clear e1 e2
          clear hO4
          have h := zm zy_125 h 3 (q := (5, dset (dset (dset (dset (dset (dset lf 4 (0, (k : Int))) 3 (0, u)) 2 (0, (T : Int))) 1 (0, (P : Int))) 0 (4, 3)) 4 (0, w32 (((k : Int)) + 1)), [], g)) rfl
          dsimp only at h
          try rw [w32_eq (z := ((k : Int)) + 1) (v := 1 + (k : Int)) (by omega) (by omega) (by omega)] at h
          refine Or.inl (⟨Or.inr (Or.inr (⟨hc5, hc7, hc9⟩)), ?_⟩)
          exact ⟨_, rfl, rfl, rfl, rfl, rfl, h⟩
        · have h := zm zy_99 h 2 (q := (28, darg 0 [(4, 29 + ((k : Int))), (0, (P : Int)), (0, (T : Int))], [(0, 1)], g)) rfl
          dsimp only at h
          have h := zret zy_99 h rfl rfl
          obtain ⟨e1, e2⟩ := oI h
          have h := hO4
          rw [e1, e2] at h
          clear e1 e2
          clear hO4
          have h := zm zy_125 h 6 (q := (37, dset (dset (dset (dset (dset lf 4 (0, (k : Int))) 3 (0, u)) 2 (0, (T : Int))) 1 (0, (P : Int))) 0 (4, 3), [(0, (k : Int)), (4, 7), (0, 1), (0, u)], g)) rfl
          dsimp only at h
          have h := zald zy_125 h rfl rfl (dvp_7 (i := (k : Int)) (by omega) (by omega))
          dsimp only at h
          have h := zgf zy_125 h rfl rfl (dvf_29_2 (i := (k : Int)) (by omega) (by omega))
          dsimp only at h
          try rw [show (29 + ((k : Int))).toNat = 29 + k from by omega] at h
          try rw [hO.2.2.1] at h
          have h := zm zy_125 h 5 (q := (5, dset (dset (dset (dset (dset (dset (dset lf 4 (0, (k : Int))) 3 (0, u)) 2 (0, (T : Int))) 1 (0, (P : Int))) 0 (4, 3)) 3 (0, bor u (bsl 1 ((q : Int))))) 4 (0, w32 (((k : Int)) + 1)), [], g)) rfl
          dsimp only at h
          try rw [w32_eq (z := ((k : Int)) + 1) (v := 1 + (k : Int)) (by omega) (by omega) (by omega)] at h
          refine Or.inr (⟨⟨hc5, hc7, hc9⟩, ?_⟩)
          exact ⟨_, rfl, rfl, rfl, rfl, rfl, h⟩
theorem t_plc_e {sv : Nat → Int32} {L n : Nat} {lf : dlf} {g : cg} {o : cg × Option cv} {P T k N : Nat} {u : Int} (rP : P ≤ 5) (rT : T ≤ 7) (rk : k ≤ 16) (rN : N ≤ 16) (hN : g 3 9 = (N : Int)) (hge : N ≤ k) (h : zr sv L (n + 1) 125 5 lf [] g o) (hl0 : lf 0 = (4, 3)) (hl1 : lf 1 = (0, (P : Int))) (hl2 : lf 2 = (0, (T : Int))) (hl3 : lf 3 = (0, u)) (hl4 : lf 4 = (0, (k : Int))) : o = (g, some (0, u)) := by
  rw [zov hl0, zov hl1, zov hl2, zov hl3, zov hl4] at h
  have h := zm1 zy_125 h 3 (q := (cond (crel .ge ((k : Int)) (g 3 9)) 50 14, dset (dset (dset (dset (dset lf 4 (0, (k : Int))) 3 (0, u)) 2 (0, (T : Int))) 1 (0, (P : Int))) 0 (4, 3), [], g)) rfl
  dsimp only at h
  try rw [hN] at h
  rcases zif_ge h with ⟨hc1, h⟩ | ⟨hc1, h⟩
  · have h := zm zy_125 h 1 (q := (51, dset (dset (dset (dset (dset lf 4 (0, (k : Int))) 3 (0, u)) 2 (0, (T : Int))) 1 (0, (P : Int))) 0 (4, 3), [(0, u)], g)) rfl
    dsimp only at h
    exact zret zy_125 h rfl rfl
  · exact absurd hc1 (by omega)
theorem t_dbo0 {sv : Nat → Int32} {L n : Nat} {lf : dlf} {g : cg} {o : cg × Option cv} {P : Nat} (rP : P ≤ 5) (h : zr sv L n 124 0 lf [] g o) (hl0 : lf 0 = (4, 3)) (hl1 : lf 1 = (0, (P : Int))) : ∃ lf', lf' 0 = (4, 3) ∧ lf' 1 = (0, (P : Int)) ∧ lf' 2 = (0, 0) ∧ lf' 3 = (0, 0) ∧ zr sv L n 124 4 lf' [] g o := by
  rw [zov hl0, zov hl1] at h
  have h := zm zy_124 h 4 (q := (4, dset (dset (dset (dset lf 1 (0, (P : Int))) 0 (4, 3)) 2 (0, 0)) 3 (0, 0), [], g)) rfl
  dsimp only at h
  exact ⟨_, rfl, rfl, rfl, rfl, h⟩
theorem t_dbo_s {sv : Nat → Int32} {L n : Nat} {lf : dlf} {g : cg} {o : cg × Option cv} {P c T : Nat} (rP : P ≤ 5) (rc : c ≤ 7) (rT : T ≤ 7) (h : zr sv L (n + 1) 124 4 lf [] g o) (hl0 : lf 0 = (4, 3)) (hl1 : lf 1 = (0, (P : Int))) (hl2 : lf 2 = (0, (c : Int))) (hl3 : lf 3 = (0, (T : Int))) : ∃ g_1 r_1, zr sv L n 125 0 (darg 0 [(4, 3), (0, (P : Int)), (0, (T : Int))]) [] g (g_1, some (0, r_1)) ∧ (∃ g_2 r_2, zr sv L n 102 0 (darg 0 [(0, r_1)]) [] g_1 (g_2, some (0, r_2)) ∧ (((r_2 < 2) ∧ (∃ lf', lf' 0 = (4, 3) ∧ lf' 1 = (0, (P : Int)) ∧ lf' 2 = (0, (c : Int)) ∧ lf' 3 = (0, 1 + (T : Int)) ∧ zr sv L n 124 4 lf' [] g_2 o)) ∨ ((2 ≤ r_2) ∧ (∃ lf', lf' 0 = (4, 3) ∧ lf' 1 = (0, (P : Int)) ∧ lf' 2 = (0, 1 + (c : Int)) ∧ lf' 3 = (0, 1 + (T : Int)) ∧ zr sv L n 124 4 lf' [] g_2 o)))) := by
  rw [zov hl0, zov hl1, zov hl2, zov hl3] at h
  have h := zm1 zy_124 h 2 (q := (cond (crel .ge ((T : Int)) 8) 32 10, dset (dset (dset (dset lf 3 (0, (T : Int))) 2 (0, (c : Int))) 1 (0, (P : Int))) 0 (4, 3), [], g)) rfl
  dsimp only at h
  rcases zif_ge h with ⟨hc1, h⟩ | ⟨hc1, h⟩
  · exact absurd hc1 (by omega)
  · have h := zm zy_124 h 3 (q := (13, dset (dset (dset (dset lf 3 (0, (T : Int))) 2 (0, (c : Int))) 1 (0, (P : Int))) 0 (4, 3), [(0, (T : Int)), (0, (P : Int)), (4, 3)], g)) rfl
    dsimp only at h
    obtain ⟨g_1, r_1, hk, h⟩ := zcallI zy_124 h rfl rfl zy_125 zk_125
    dsimp only at hk h
    refine ⟨g_1, r_1, hk, ?_⟩
    obtain ⟨g_2, r_2, hk, h⟩ := zcallI zy_124 h rfl rfl zy_102 zk_102
    dsimp only at hk h
    refine ⟨g_2, r_2, hk, ?_⟩
    have h := zm zy_124 h 2 (q := (cond (crel .lt r_2 2) 26 23, dset (dset (dset (dset lf 3 (0, (T : Int))) 2 (0, (c : Int))) 1 (0, (P : Int))) 0 (4, 3), [], g_2)) rfl
    dsimp only at h
    rcases zif_lt h with ⟨hc2, h⟩ | ⟨hc2, h⟩
    · have h := zm zy_124 h 2 (q := (4, dset (dset (dset (dset (dset lf 3 (0, (T : Int))) 2 (0, (c : Int))) 1 (0, (P : Int))) 0 (4, 3)) 3 (0, w32 (((T : Int)) + 1)), [], g_2)) rfl
      dsimp only at h
      try rw [w32_eq (z := ((T : Int)) + 1) (v := 1 + (T : Int)) (by omega) (by omega) (by omega)] at h
      refine Or.inl (⟨hc2, ?_⟩)
      exact ⟨_, rfl, rfl, rfl, rfl, h⟩
    · have h := zm zy_124 h 3 (q := (4, dset (dset (dset (dset (dset (dset lf 3 (0, (T : Int))) 2 (0, (c : Int))) 1 (0, (P : Int))) 0 (4, 3)) 2 (0, w32 (((c : Int)) + 1))) 3 (0, w32 (((T : Int)) + 1)), [], g_2)) rfl
      dsimp only at h
      try rw [w32_eq (z := ((c : Int)) + 1) (v := 1 + (c : Int)) (by omega) (by omega) (by omega)] at h
      try rw [w32_eq (z := ((T : Int)) + 1) (v := 1 + (T : Int)) (by omega) (by omega) (by omega)] at h
      refine Or.inr (⟨hc2, ?_⟩)
      exact ⟨_, rfl, rfl, rfl, rfl, h⟩
theorem t_dbo_e {sv : Nat → Int32} {L n : Nat} {lf : dlf} {g : cg} {o : cg × Option cv} {P c : Nat} (rP : P ≤ 5) (rc : c ≤ 8) (h : zr sv L (n + 1) 124 4 lf [] g o) (hl0 : lf 0 = (4, 3)) (hl1 : lf 1 = (0, (P : Int))) (hl2 : lf 2 = (0, (c : Int))) (hl3 : lf 3 = (0, 8)) : o = (g, some (0, (c : Int))) := by
  rw [zov hl0, zov hl1, zov hl2, zov hl3] at h
  have h := zm1 zy_124 h 3 (q := (33, dset (dset (dset (dset lf 3 (0, 8)) 2 (0, (c : Int))) 1 (0, (P : Int))) 0 (4, 3), [(0, (c : Int))], g)) rfl
  dsimp only at h
  exact zret zy_124 h rfl rfl
theorem t_bc {sv : Nat → Int32} {L n : Nat} {lf : dlf} {g : cg} {o : cg × Option cv} {x : Int} (h : zr sv L n 102 0 lf [] g o) (hl0 : lf 0 = (0, x)) : o = (g, some (0, ban (w32 ((w32 ((ban (w32 ((w32 ((ban (w32 (x - (ban (bus x 1) 1431655765))) 858993459) + (ban (bus (w32 (x - (ban (bus x 1) 1431655765))) 2) 858993459))) + (bus (w32 ((ban (w32 (x - (ban (bus x 1) 1431655765))) 858993459) + (ban (bus (w32 (x - (ban (bus x 1) 1431655765))) 2) 858993459))) 4))) 252645135) + (bus (ban (w32 ((w32 ((ban (w32 (x - (ban (bus x 1) 1431655765))) 858993459) + (ban (bus (w32 (x - (ban (bus x 1) 1431655765))) 2) 858993459))) + (bus (w32 ((ban (w32 (x - (ban (bus x 1) 1431655765))) 858993459) + (ban (bus (w32 (x - (ban (bus x 1) 1431655765))) 2) 858993459))) 4))) 252645135) 8))) + (bus (w32 ((ban (w32 ((w32 ((ban (w32 (x - (ban (bus x 1) 1431655765))) 858993459) + (ban (bus (w32 (x - (ban (bus x 1) 1431655765))) 2) 858993459))) + (bus (w32 ((ban (w32 (x - (ban (bus x 1) 1431655765))) 858993459) + (ban (bus (w32 (x - (ban (bus x 1) 1431655765))) 2) 858993459))) 4))) 252645135) + (bus (ban (w32 ((w32 ((ban (w32 (x - (ban (bus x 1) 1431655765))) 858993459) + (ban (bus (w32 (x - (ban (bus x 1) 1431655765))) 2) 858993459))) + (bus (w32 ((ban (w32 (x - (ban (bus x 1) 1431655765))) 858993459) + (ban (bus (w32 (x - (ban (bus x 1) 1431655765))) 2) 858993459))) 4))) 252645135) 8))) 16))) 63)) := by
  rw [zov hl0] at h
  have h := zm zy_102 h 41 (q := (52, dset (dset (dset (dset (dset (dset lf 0 (0, x)) 0 (0, w32 (x - (ban (bus x 1) 1431655765)))) 0 (0, w32 ((ban (w32 (x - (ban (bus x 1) 1431655765))) 858993459) + (ban (bus (w32 (x - (ban (bus x 1) 1431655765))) 2) 858993459)))) 0 (0, ban (w32 ((w32 ((ban (w32 (x - (ban (bus x 1) 1431655765))) 858993459) + (ban (bus (w32 (x - (ban (bus x 1) 1431655765))) 2) 858993459))) + (bus (w32 ((ban (w32 (x - (ban (bus x 1) 1431655765))) 858993459) + (ban (bus (w32 (x - (ban (bus x 1) 1431655765))) 2) 858993459))) 4))) 252645135)) 0 (0, w32 ((ban (w32 ((w32 ((ban (w32 (x - (ban (bus x 1) 1431655765))) 858993459) + (ban (bus (w32 (x - (ban (bus x 1) 1431655765))) 2) 858993459))) + (bus (w32 ((ban (w32 (x - (ban (bus x 1) 1431655765))) 858993459) + (ban (bus (w32 (x - (ban (bus x 1) 1431655765))) 2) 858993459))) 4))) 252645135) + (bus (ban (w32 ((w32 ((ban (w32 (x - (ban (bus x 1) 1431655765))) 858993459) + (ban (bus (w32 (x - (ban (bus x 1) 1431655765))) 2) 858993459))) + (bus (w32 ((ban (w32 (x - (ban (bus x 1) 1431655765))) 858993459) + (ban (bus (w32 (x - (ban (bus x 1) 1431655765))) 2) 858993459))) 4))) 252645135) 8)))) 0 (0, w32 ((w32 ((ban (w32 ((w32 ((ban (w32 (x - (ban (bus x 1) 1431655765))) 858993459) + (ban (bus (w32 (x - (ban (bus x 1) 1431655765))) 2) 858993459))) + (bus (w32 ((ban (w32 (x - (ban (bus x 1) 1431655765))) 858993459) + (ban (bus (w32 (x - (ban (bus x 1) 1431655765))) 2) 858993459))) 4))) 252645135) + (bus (ban (w32 ((w32 ((ban (w32 (x - (ban (bus x 1) 1431655765))) 858993459) + (ban (bus (w32 (x - (ban (bus x 1) 1431655765))) 2) 858993459))) + (bus (w32 ((ban (w32 (x - (ban (bus x 1) 1431655765))) 858993459) + (ban (bus (w32 (x - (ban (bus x 1) 1431655765))) 2) 858993459))) 4))) 252645135) 8))) + (bus (w32 ((ban (w32 ((w32 ((ban (w32 (x - (ban (bus x 1) 1431655765))) 858993459) + (ban (bus (w32 (x - (ban (bus x 1) 1431655765))) 2) 858993459))) + (bus (w32 ((ban (w32 (x - (ban (bus x 1) 1431655765))) 858993459) + (ban (bus (w32 (x - (ban (bus x 1) 1431655765))) 2) 858993459))) 4))) 252645135) + (bus (ban (w32 ((w32 ((ban (w32 (x - (ban (bus x 1) 1431655765))) 858993459) + (ban (bus (w32 (x - (ban (bus x 1) 1431655765))) 2) 858993459))) + (bus (w32 ((ban (w32 (x - (ban (bus x 1) 1431655765))) 858993459) + (ban (bus (w32 (x - (ban (bus x 1) 1431655765))) 2) 858993459))) 4))) 252645135) 8))) 16))), [(0, ban (w32 ((w32 ((ban (w32 ((w32 ((ban (w32 (x - (ban (bus x 1) 1431655765))) 858993459) + (ban (bus (w32 (x - (ban (bus x 1) 1431655765))) 2) 858993459))) + (bus (w32 ((ban (w32 (x - (ban (bus x 1) 1431655765))) 858993459) + (ban (bus (w32 (x - (ban (bus x 1) 1431655765))) 2) 858993459))) 4))) 252645135) + (bus (ban (w32 ((w32 ((ban (w32 (x - (ban (bus x 1) 1431655765))) 858993459) + (ban (bus (w32 (x - (ban (bus x 1) 1431655765))) 2) 858993459))) + (bus (w32 ((ban (w32 (x - (ban (bus x 1) 1431655765))) 858993459) + (ban (bus (w32 (x - (ban (bus x 1) 1431655765))) 2) 858993459))) 4))) 252645135) 8))) + (bus (w32 ((ban (w32 ((w32 ((ban (w32 (x - (ban (bus x 1) 1431655765))) 858993459) + (ban (bus (w32 (x - (ban (bus x 1) 1431655765))) 2) 858993459))) + (bus (w32 ((ban (w32 (x - (ban (bus x 1) 1431655765))) 858993459) + (ban (bus (w32 (x - (ban (bus x 1) 1431655765))) 2) 858993459))) 4))) 252645135) + (bus (ban (w32 ((w32 ((ban (w32 (x - (ban (bus x 1) 1431655765))) 858993459) + (ban (bus (w32 (x - (ban (bus x 1) 1431655765))) 2) 858993459))) + (bus (w32 ((ban (w32 (x - (ban (bus x 1) 1431655765))) 858993459) + (ban (bus (w32 (x - (ban (bus x 1) 1431655765))) 2) 858993459))) 4))) 252645135) 8))) 16))) 63)], g)) rfl
  dsimp only at h
  exact zret zy_102 h rfl rfl
theorem t_kn0 {sv : Nat → Int32} {L n : Nat} {lf : dlf} {g : cg} {o : cg × Option cv} {a b : Int} (h : zr sv L n 285 0 lf [] g o) (hl0 : lf 0 = (4, 0)) (hl1 : lf 1 = (0, a)) (hl2 : lf 2 = (0, b)) : (((a < 0) ∨ (0 ≤ a ∧ g 3 3 ≤ a) ∨ (0 ≤ a ∧ a < g 3 3 ∧ b < 0) ∨ (0 ≤ a ∧ a < g 3 3 ∧ 0 ≤ b ∧ g 3 3 ≤ b) ∨ (0 ≤ a ∧ a < g 3 3 ∧ 0 ≤ b ∧ b < g 3 3 ∧ a = b)) ∧ (o = (cup g 0 0 1, some (0, (-1))))) ∨ ((0 ≤ a ∧ a < g 3 3 ∧ 0 ≤ b ∧ b < g 3 3 ∧ a ≠ b) ∧ (∃ lf', lf' 0 = (4, 0) ∧ lf' 1 = (0, a) ∧ lf' 2 = (0, b) ∧ zr sv L n 285 15 lf' [] g o)) := by
  rw [zov hl0, zov hl1, zov hl2] at h
  have h := zm zy_285 h 3 (q := (3, dset (dset (dset lf 2 (0, b)) 1 (0, a)) 0 (4, 0), [(0, b), (0, a), (4, 0)], g)) rfl
  dsimp only at h
  obtain ⟨gz1, rz2, hk, h⟩ := zcallI zy_285 h rfl rfl zy_84 zk_84
  dsimp only at hk h
  have hO3 := h
  have h := hk
  clear hk
  have h := zm zy_84 h 3 (q := (5, darg 0 [(4, 0), (0, a), (0, b)], [(0, a), (4, 3)], g)) rfl
  dsimp only at h
  obtain ⟨gz4, rz5, hk, h⟩ := zcallI zy_84 h rfl rfl zy_81 zk_81
  dsimp only at hk h
  have hO6 := h
  have h := hk
  clear hk
  have h := zm zy_81 h 2 (q := (cond (crel .lt a 0) 16 4, darg 0 [(4, 3), (0, a)], [], g)) rfl
  dsimp only at h
  rcases zif_lt h with ⟨hc7, h⟩ | ⟨hc7, h⟩
  · have h := zm zy_81 h 1 (q := (17, darg 0 [(4, 3), (0, a)], [(0, 0)], g)) rfl
    dsimp only at h
    have h := zret zy_81 h rfl rfl
    obtain ⟨e1, e2⟩ := oI h
    have h := hO6
    rw [e1, e2] at h
    clear e1 e2
    clear hO6
    have h := zm zy_84 h 2 (q := (32, darg 0 [(4, 0), (0, a), (0, b)], [(0, 0)], g)) rfl
    dsimp only at h
    have h := zret zy_84 h rfl rfl
    obtain ⟨e1, e2⟩ := oI h
    have h := hO3
    rw [e1, e2] at h
    clear e1 e2
    clear hO3
    have h := zm zy_285 h 3 (q := (11, dset (dset (dset lf 2 (0, b)) 1 (0, a)) 0 (4, 0), [(0, 1), (4, 0)], g)) rfl
    dsimp only at h
    obtain ⟨gz8, rz9, hk, h⟩ := zcallI zy_285 h rfl rfl zy_29 zk_29
    dsimp only at hk h
    have hO10 := h
    have h := hk
    clear hk
    have h := zm zy_29 h 4 (q := (6, darg 0 [(4, 0), (0, 1)], [(0, (-1))], cup g 0 0 1)) rfl
    dsimp only at h
    have h := zret zy_29 h rfl rfl
    obtain ⟨e1, e2⟩ := oI h
    have h := hO10
    rw [e1, e2] at h
    clear e1 e2
    clear hO10
    refine Or.inl (⟨Or.inl (hc7), ?_⟩)
    exact zret zy_285 h rfl rfl
  · have h := zm zy_81 h 4 (q := (cond (crel .ge a (g 3 3)) 16 12, darg 0 [(4, 3), (0, a)], [], g)) rfl
    dsimp only at h
    rcases zif_ge h with ⟨hc11, h⟩ | ⟨hc11, h⟩
    · have h := zm zy_81 h 1 (q := (17, darg 0 [(4, 3), (0, a)], [(0, 0)], g)) rfl
      dsimp only at h
      have h := zret zy_81 h rfl rfl
      obtain ⟨e1, e2⟩ := oI h
      have h := hO6
      rw [e1, e2] at h
      clear e1 e2
      clear hO6
      have h := zm zy_84 h 2 (q := (32, darg 0 [(4, 0), (0, a), (0, b)], [(0, 0)], g)) rfl
      dsimp only at h
      have h := zret zy_84 h rfl rfl
      obtain ⟨e1, e2⟩ := oI h
      have h := hO3
      rw [e1, e2] at h
      clear e1 e2
      clear hO3
      have h := zm zy_285 h 3 (q := (11, dset (dset (dset lf 2 (0, b)) 1 (0, a)) 0 (4, 0), [(0, 1), (4, 0)], g)) rfl
      dsimp only at h
      obtain ⟨gz12, rz13, hk, h⟩ := zcallI zy_285 h rfl rfl zy_29 zk_29
      dsimp only at hk h
      have hO14 := h
      have h := hk
      clear hk
      have h := zm zy_29 h 4 (q := (6, darg 0 [(4, 0), (0, 1)], [(0, (-1))], cup g 0 0 1)) rfl
      dsimp only at h
      have h := zret zy_29 h rfl rfl
      obtain ⟨e1, e2⟩ := oI h
      have h := hO14
      rw [e1, e2] at h
      clear e1 e2
      clear hO14
      refine Or.inl (⟨Or.inr (Or.inl (⟨hc7, hc11⟩)), ?_⟩)
      exact zret zy_285 h rfl rfl
    · have h := zm zy_81 h 2 (q := (17, darg 0 [(4, 3), (0, a)], [(0, 1)], g)) rfl
      dsimp only at h
      have h := zret zy_81 h rfl rfl
      obtain ⟨e1, e2⟩ := oI h
      have h := hO6
      rw [e1, e2] at h
      clear e1 e2
      clear hO6
      have h := zm zy_84 h 4 (q := (16, darg 0 [(4, 0), (0, a), (0, b)], [(0, b), (4, 3)], g)) rfl
      dsimp only at h
      obtain ⟨gz15, rz16, hk, h⟩ := zcallI zy_84 h rfl rfl zy_81 zk_81
      dsimp only at hk h
      have hO17 := h
      have h := hk
      clear hk
      have h := zm zy_81 h 2 (q := (cond (crel .lt b 0) 16 4, darg 0 [(4, 3), (0, b)], [], g)) rfl
      dsimp only at h
      rcases zif_lt h with ⟨hc18, h⟩ | ⟨hc18, h⟩
      · have h := zm zy_81 h 1 (q := (17, darg 0 [(4, 3), (0, b)], [(0, 0)], g)) rfl
        dsimp only at h
        have h := zret zy_81 h rfl rfl
        obtain ⟨e1, e2⟩ := oI h
        have h := hO17
        rw [e1, e2] at h
        clear e1 e2
        clear hO17
        have h := zm zy_84 h 2 (q := (32, darg 0 [(4, 0), (0, a), (0, b)], [(0, 0)], g)) rfl
        dsimp only at h
        have h := zret zy_84 h rfl rfl
        obtain ⟨e1, e2⟩ := oI h
        have h := hO3
        rw [e1, e2] at h
        clear e1 e2
        clear hO3
        have h := zm zy_285 h 3 (q := (11, dset (dset (dset lf 2 (0, b)) 1 (0, a)) 0 (4, 0), [(0, 1), (4, 0)], g)) rfl
        dsimp only at h
        obtain ⟨gz19, rz20, hk, h⟩ := zcallI zy_285 h rfl rfl zy_29 zk_29
        dsimp only at hk h
        have hO21 := h
        have h := hk
        clear hk
        have h := zm zy_29 h 4 (q := (6, darg 0 [(4, 0), (0, 1)], [(0, (-1))], cup g 0 0 1)) rfl
        dsimp only at h
        have h := zret zy_29 h rfl rfl
        obtain ⟨e1, e2⟩ := oI h
        have h := hO21
        rw [e1, e2] at h
        clear e1 e2
        clear hO21
        refine Or.inl (⟨Or.inr (Or.inr (Or.inl (⟨hc7, hc11, hc18⟩))), ?_⟩)
        exact zret zy_285 h rfl rfl
      · have h := zm zy_81 h 4 (q := (cond (crel .ge b (g 3 3)) 16 12, darg 0 [(4, 3), (0, b)], [], g)) rfl
        dsimp only at h
        rcases zif_ge h with ⟨hc22, h⟩ | ⟨hc22, h⟩
        · have h := zm zy_81 h 1 (q := (17, darg 0 [(4, 3), (0, b)], [(0, 0)], g)) rfl
          dsimp only at h
          have h := zret zy_81 h rfl rfl
          obtain ⟨e1, e2⟩ := oI h
          have h := hO17
          rw [e1, e2] at h
          clear e1 e2
          clear hO17
          have h := zm zy_84 h 2 (q := (32, darg 0 [(4, 0), (0, a), (0, b)], [(0, 0)], g)) rfl
          dsimp only at h
          have h := zret zy_84 h rfl rfl
          obtain ⟨e1, e2⟩ := oI h
          have h := hO3
          rw [e1, e2] at h
          clear e1 e2
          clear hO3
          have h := zm zy_285 h 3 (q := (11, dset (dset (dset lf 2 (0, b)) 1 (0, a)) 0 (4, 0), [(0, 1), (4, 0)], g)) rfl
          dsimp only at h
          obtain ⟨gz23, rz24, hk, h⟩ := zcallI zy_285 h rfl rfl zy_29 zk_29
          dsimp only at hk h
          have hO25 := h
          have h := hk
          clear hk
          have h := zm zy_29 h 4 (q := (6, darg 0 [(4, 0), (0, 1)], [(0, (-1))], cup g 0 0 1)) rfl
          dsimp only at h
          have h := zret zy_29 h rfl rfl
          obtain ⟨e1, e2⟩ := oI h
          have h := hO25
          rw [e1, e2] at h
          clear e1 e2
          clear hO25
          refine Or.inl (⟨Or.inr (Or.inr (Or.inr (Or.inl (⟨hc7, hc11, hc18, hc22⟩)))), ?_⟩)
          exact zret zy_285 h rfl rfl
        · have h := zm zy_81 h 2 (q := (17, darg 0 [(4, 3), (0, b)], [(0, 1)], g)) rfl
          dsimp only at h
          have h := zret zy_81 h rfl rfl
          obtain ⟨e1, e2⟩ := oI h
          have h := hO17
          rw [e1, e2] at h
          clear e1 e2
          clear hO17
          have h := zm zy_84 h 4 (q := (cond (crel .eq a b) 31 27, darg 0 [(4, 0), (0, a), (0, b)], [], g)) rfl
          dsimp only at h
          rcases zif_eq h with ⟨hc26, h⟩ | ⟨hc26, h⟩
          · have h := zm zy_84 h 1 (q := (32, darg 0 [(4, 0), (0, a), (0, b)], [(0, 0)], g)) rfl
            dsimp only at h
            have h := zret zy_84 h rfl rfl
            obtain ⟨e1, e2⟩ := oI h
            have h := hO3
            rw [e1, e2] at h
            clear e1 e2
            clear hO3
            have h := zm zy_285 h 3 (q := (11, dset (dset (dset lf 2 (0, b)) 1 (0, a)) 0 (4, 0), [(0, 1), (4, 0)], g)) rfl
            dsimp only at h
            obtain ⟨gz27, rz28, hk, h⟩ := zcallI zy_285 h rfl rfl zy_29 zk_29
            dsimp only at hk h
            have hO29 := h
            have h := hk
            clear hk
            have h := zm zy_29 h 4 (q := (6, darg 0 [(4, 0), (0, 1)], [(0, (-1))], cup g 0 0 1)) rfl
            dsimp only at h
            have h := zret zy_29 h rfl rfl
            obtain ⟨e1, e2⟩ := oI h
            have h := hO29
            rw [e1, e2] at h
            clear e1 e2
            clear hO29
            refine Or.inl (⟨Or.inr (Or.inr (Or.inr (Or.inr (⟨hc7, hc11, hc18, hc22, hc26⟩)))), ?_⟩)
            exact zret zy_285 h rfl rfl
          · have h := zm zy_84 h 2 (q := (32, darg 0 [(4, 0), (0, a), (0, b)], [(0, 1)], g)) rfl
            dsimp only at h
            have h := zret zy_84 h rfl rfl
            obtain ⟨e1, e2⟩ := oI h
            have h := hO3
            rw [e1, e2] at h
            clear e1 e2
            clear hO3
            have h := zm zy_285 h 1 (q := (15, dset (dset (dset lf 2 (0, b)) 1 (0, a)) 0 (4, 0), [], g)) rfl
            dsimp only at h
            refine Or.inr (⟨⟨hc7, hc11, hc18, hc22, hc26⟩, ?_⟩)
            exact ⟨_, rfl, rfl, rfl, h⟩
theorem t_kn15 {sv : Nat → Int32} {L n : Nat} {lf : dlf} {g : cg} {o : cg × Option cv} {W P : Nat} {fa : Int} (rW : W ≤ 5) (rP : P ≤ 5) (hfa : g (17 + 2 * W) 5 = fa) (h : zr sv L n 285 15 lf [] g o) (hl0 : lf 0 = (4, 0)) (hl1 : lf 1 = (0, (W : Int))) (hl2 : lf 2 = (0, (P : Int))) : o = (cup g 0 0 0, some (0, ban (bsr fa ((P : Int))) 1)) := by
  rw [zov hl0, zov hl1, zov hl2] at h
  have h := zm zy_285 h 5 (q := (24, dset (dset (dset lf 2 (0, (P : Int))) 1 (0, (W : Int))) 0 (4, 0), [(0, (W : Int)), (4, 6), (4, 0)], g)) rfl
  dsimp only at h
  have h := zald zy_285 h rfl rfl (dvp_6 (i := (W : Int)) (by omega) (by omega))
  dsimp only at h
  have h := zgf zy_285 h rfl rfl (dvf_17_5 (i := (W : Int)) (by omega) (by omega))
  dsimp only at h
  try rw [show (17 + 2 * ((W : Int))).toNat = 17 + 2 * W from by omega] at h
  try rw [hfa] at h
  have h := zm zy_285 h 4 (q := (32, dset (dset (dset lf 2 (0, (P : Int))) 1 (0, (W : Int))) 0 (4, 0), [(0, ban (bsr fa ((P : Int))) 1), (4, 0)], g)) rfl
  dsimp only at h
  obtain ⟨gz1, rz2, hk, h⟩ := zcallI zy_285 h rfl rfl zy_64 zk_64
  dsimp only at hk h
  have hO3 := h
  have h := hk
  clear hk
  have h := zm zy_64 h 4 (q := (6, darg 0 [(4, 0), (0, ban (bsr fa ((P : Int))) 1)], [(0, ban (bsr fa ((P : Int))) 1)], cup g 0 0 0)) rfl
  dsimp only at h
  have h := zret zy_64 h rfl rfl
  obtain ⟨e1, e2⟩ := oI h
  have h := hO3
  rw [e1, e2] at h
  clear e1 e2
  clear hO3
  exact zret zy_285 h rfl rfl
theorem m_kn0 {sv : Nat → Int32} {L n : Nat} {lf : dlf} {g : cg} {o : cg × Option cv} {a b : Int} (h : zr sv L n 286 0 lf [] g o) (hl0 : lf 0 = (4, 253)) (hl1 : lf 1 = (0, a)) (hl2 : lf 2 = (0, b)) : (((a < 0) ∨ (0 ≤ a ∧ g 254 1 ≤ a) ∨ (0 ≤ a ∧ a < g 254 1 ∧ b < 0) ∨ (0 ≤ a ∧ a < g 254 1 ∧ 0 ≤ b ∧ g 254 1 ≤ b) ∨ (0 ≤ a ∧ a < g 254 1 ∧ 0 ≤ b ∧ b < g 254 1 ∧ a = b)) ∧ (o = (cup g 253 2 1, some (0, (-1))))) ∨ ((0 ≤ a ∧ a < g 254 1 ∧ 0 ≤ b ∧ b < g 254 1 ∧ a ≠ b) ∧ (∃ lf', lf' 0 = (4, 253) ∧ lf' 1 = (0, a) ∧ lf' 2 = (0, b) ∧ zr sv L n 286 9 lf' [] g o)) := by
  rw [zov hl0, zov hl1, zov hl2] at h
  have h := zm zy_286 h 3 (q := (3, dset (dset (dset lf 2 (0, b)) 1 (0, a)) 0 (4, 253), [(0, b), (0, a), (4, 253)], g)) rfl
  dsimp only at h
  obtain ⟨gz1, rz2, hk, h⟩ := zcallI zy_286 h rfl rfl zy_213 zk_213
  dsimp only at hk h
  have hO3 := h
  have h := hk
  clear hk
  have h := zm zy_213 h 2 (q := (2, darg 0 [(4, 253), (0, a), (0, b)], [(0, a), (4, 253)], g)) rfl
  dsimp only at h
  obtain ⟨gz4, rz5, hk, h⟩ := zcallI zy_213 h rfl rfl zy_208 zk_208
  dsimp only at hk h
  have hO6 := h
  have h := hk
  clear hk
  have h := zm zy_208 h 2 (q := (cond (crel .lt a 0) 18 4, darg 0 [(4, 253), (0, a)], [], g)) rfl
  dsimp only at h
  rcases zif_lt h with ⟨hc7, h⟩ | ⟨hc7, h⟩
  · have h := zm zy_208 h 1 (q := (19, darg 0 [(4, 253), (0, a)], [(0, 0)], g)) rfl
    dsimp only at h
    have h := zret zy_208 h rfl rfl
    obtain ⟨e1, e2⟩ := oI h
    have h := hO6
    rw [e1, e2] at h
    clear e1 e2
    clear hO6
    have h := zm zy_213 h 2 (q := (26, darg 0 [(4, 253), (0, a), (0, b)], [(0, 0)], g)) rfl
    dsimp only at h
    have h := zret zy_213 h rfl rfl
    obtain ⟨e1, e2⟩ := oI h
    have h := hO3
    rw [e1, e2] at h
    clear e1 e2
    clear hO3
    have h := zm zy_286 h 3 (q := (32, dset (dset (dset lf 2 (0, b)) 1 (0, a)) 0 (4, 253), [(0, 1), (4, 253)], g)) rfl
    dsimp only at h
    obtain ⟨gz8, rz9, hk, h⟩ := zcallI zy_286 h rfl rfl zy_170 zk_170
    dsimp only at hk h
    have hO10 := h
    have h := hk
    clear hk
    have h := zm zy_170 h 4 (q := (6, darg 0 [(4, 253), (0, 1)], [(0, (-1))], cup g 253 2 1)) rfl
    dsimp only at h
    have h := zret zy_170 h rfl rfl
    obtain ⟨e1, e2⟩ := oI h
    have h := hO10
    rw [e1, e2] at h
    clear e1 e2
    clear hO10
    refine Or.inl (⟨Or.inl (hc7), ?_⟩)
    exact zret zy_286 h rfl rfl
  · have h := zm zy_208 h 6 (q := (cond (crel .ge a (g 254 1)) 18 14, darg 0 [(4, 253), (0, a)], [], g)) rfl
    dsimp only at h
    rcases zif_ge h with ⟨hc11, h⟩ | ⟨hc11, h⟩
    · have h := zm zy_208 h 1 (q := (19, darg 0 [(4, 253), (0, a)], [(0, 0)], g)) rfl
      dsimp only at h
      have h := zret zy_208 h rfl rfl
      obtain ⟨e1, e2⟩ := oI h
      have h := hO6
      rw [e1, e2] at h
      clear e1 e2
      clear hO6
      have h := zm zy_213 h 2 (q := (26, darg 0 [(4, 253), (0, a), (0, b)], [(0, 0)], g)) rfl
      dsimp only at h
      have h := zret zy_213 h rfl rfl
      obtain ⟨e1, e2⟩ := oI h
      have h := hO3
      rw [e1, e2] at h
      clear e1 e2
      clear hO3
      have h := zm zy_286 h 3 (q := (32, dset (dset (dset lf 2 (0, b)) 1 (0, a)) 0 (4, 253), [(0, 1), (4, 253)], g)) rfl
      dsimp only at h
      obtain ⟨gz12, rz13, hk, h⟩ := zcallI zy_286 h rfl rfl zy_170 zk_170
      dsimp only at hk h
      have hO14 := h
      have h := hk
      clear hk
      have h := zm zy_170 h 4 (q := (6, darg 0 [(4, 253), (0, 1)], [(0, (-1))], cup g 253 2 1)) rfl
      dsimp only at h
      have h := zret zy_170 h rfl rfl
      obtain ⟨e1, e2⟩ := oI h
      have h := hO14
      rw [e1, e2] at h
      clear e1 e2
      clear hO14
      refine Or.inl (⟨Or.inr (Or.inl (⟨hc7, hc11⟩)), ?_⟩)
      exact zret zy_286 h rfl rfl
    · have h := zm zy_208 h 2 (q := (19, darg 0 [(4, 253), (0, a)], [(0, 1)], g)) rfl
      dsimp only at h
      have h := zret zy_208 h rfl rfl
      obtain ⟨e1, e2⟩ := oI h
      have h := hO6
      rw [e1, e2] at h
      clear e1 e2
      clear hO6
      have h := zm zy_213 h 3 (q := (10, darg 0 [(4, 253), (0, a), (0, b)], [(0, b), (4, 253)], g)) rfl
      dsimp only at h
      obtain ⟨gz15, rz16, hk, h⟩ := zcallI zy_213 h rfl rfl zy_208 zk_208
      dsimp only at hk h
      have hO17 := h
      have h := hk
      clear hk
      have h := zm zy_208 h 2 (q := (cond (crel .lt b 0) 18 4, darg 0 [(4, 253), (0, b)], [], g)) rfl
      dsimp only at h
      rcases zif_lt h with ⟨hc18, h⟩ | ⟨hc18, h⟩
      · have h := zm zy_208 h 1 (q := (19, darg 0 [(4, 253), (0, b)], [(0, 0)], g)) rfl
        dsimp only at h
        have h := zret zy_208 h rfl rfl
        obtain ⟨e1, e2⟩ := oI h
        have h := hO17
        rw [e1, e2] at h
        clear e1 e2
        clear hO17
        have h := zm zy_213 h 2 (q := (26, darg 0 [(4, 253), (0, a), (0, b)], [(0, 0)], g)) rfl
        dsimp only at h
        have h := zret zy_213 h rfl rfl
        obtain ⟨e1, e2⟩ := oI h
        have h := hO3
        rw [e1, e2] at h
        clear e1 e2
        clear hO3
        have h := zm zy_286 h 3 (q := (32, dset (dset (dset lf 2 (0, b)) 1 (0, a)) 0 (4, 253), [(0, 1), (4, 253)], g)) rfl
        dsimp only at h
        obtain ⟨gz19, rz20, hk, h⟩ := zcallI zy_286 h rfl rfl zy_170 zk_170
        dsimp only at hk h
        have hO21 := h
        have h := hk
        clear hk
        have h := zm zy_170 h 4 (q := (6, darg 0 [(4, 253), (0, 1)], [(0, (-1))], cup g 253 2 1)) rfl
        dsimp only at h
        have h := zret zy_170 h rfl rfl
        obtain ⟨e1, e2⟩ := oI h
        have h := hO21
        rw [e1, e2] at h
        clear e1 e2
        clear hO21
        refine Or.inl (⟨Or.inr (Or.inr (Or.inl (⟨hc7, hc11, hc18⟩))), ?_⟩)
        exact zret zy_286 h rfl rfl
      · have h := zm zy_208 h 6 (q := (cond (crel .ge b (g 254 1)) 18 14, darg 0 [(4, 253), (0, b)], [], g)) rfl
        dsimp only at h
        rcases zif_ge h with ⟨hc22, h⟩ | ⟨hc22, h⟩
        · have h := zm zy_208 h 1 (q := (19, darg 0 [(4, 253), (0, b)], [(0, 0)], g)) rfl
          dsimp only at h
          have h := zret zy_208 h rfl rfl
          obtain ⟨e1, e2⟩ := oI h
          have h := hO17
          rw [e1, e2] at h
          clear e1 e2
          clear hO17
          have h := zm zy_213 h 2 (q := (26, darg 0 [(4, 253), (0, a), (0, b)], [(0, 0)], g)) rfl
          dsimp only at h
          have h := zret zy_213 h rfl rfl
          obtain ⟨e1, e2⟩ := oI h
          have h := hO3
          rw [e1, e2] at h
          clear e1 e2
          clear hO3
          have h := zm zy_286 h 3 (q := (32, dset (dset (dset lf 2 (0, b)) 1 (0, a)) 0 (4, 253), [(0, 1), (4, 253)], g)) rfl
          dsimp only at h
          obtain ⟨gz23, rz24, hk, h⟩ := zcallI zy_286 h rfl rfl zy_170 zk_170
          dsimp only at hk h
          have hO25 := h
          have h := hk
          clear hk
          have h := zm zy_170 h 4 (q := (6, darg 0 [(4, 253), (0, 1)], [(0, (-1))], cup g 253 2 1)) rfl
          dsimp only at h
          have h := zret zy_170 h rfl rfl
          obtain ⟨e1, e2⟩ := oI h
          have h := hO25
          rw [e1, e2] at h
          clear e1 e2
          clear hO25
          refine Or.inl (⟨Or.inr (Or.inr (Or.inr (Or.inl (⟨hc7, hc11, hc18, hc22⟩)))), ?_⟩)
          exact zret zy_286 h rfl rfl
        · have h := zm zy_208 h 2 (q := (19, darg 0 [(4, 253), (0, b)], [(0, 1)], g)) rfl
          dsimp only at h
          have h := zret zy_208 h rfl rfl
          obtain ⟨e1, e2⟩ := oI h
          have h := hO17
          rw [e1, e2] at h
          clear e1 e2
          clear hO17
          have h := zm zy_213 h 4 (q := (cond (crel .eq a b) 25 21, darg 0 [(4, 253), (0, a), (0, b)], [], g)) rfl
          dsimp only at h
          rcases zif_eq h with ⟨hc26, h⟩ | ⟨hc26, h⟩
          · have h := zm zy_213 h 1 (q := (26, darg 0 [(4, 253), (0, a), (0, b)], [(0, 0)], g)) rfl
            dsimp only at h
            have h := zret zy_213 h rfl rfl
            obtain ⟨e1, e2⟩ := oI h
            have h := hO3
            rw [e1, e2] at h
            clear e1 e2
            clear hO3
            have h := zm zy_286 h 3 (q := (32, dset (dset (dset lf 2 (0, b)) 1 (0, a)) 0 (4, 253), [(0, 1), (4, 253)], g)) rfl
            dsimp only at h
            obtain ⟨gz27, rz28, hk, h⟩ := zcallI zy_286 h rfl rfl zy_170 zk_170
            dsimp only at hk h
            have hO29 := h
            have h := hk
            clear hk
            have h := zm zy_170 h 4 (q := (6, darg 0 [(4, 253), (0, 1)], [(0, (-1))], cup g 253 2 1)) rfl
            dsimp only at h
            have h := zret zy_170 h rfl rfl
            obtain ⟨e1, e2⟩ := oI h
            have h := hO29
            rw [e1, e2] at h
            clear e1 e2
            clear hO29
            refine Or.inl (⟨Or.inr (Or.inr (Or.inr (Or.inr (⟨hc7, hc11, hc18, hc22, hc26⟩)))), ?_⟩)
            exact zret zy_286 h rfl rfl
          · have h := zm zy_213 h 2 (q := (26, darg 0 [(4, 253), (0, a), (0, b)], [(0, 1)], g)) rfl
            dsimp only at h
            have h := zret zy_213 h rfl rfl
            obtain ⟨e1, e2⟩ := oI h
            have h := hO3
            rw [e1, e2] at h
            clear e1 e2
            clear hO3
            have h := zm zy_286 h 1 (q := (9, dset (dset (dset lf 2 (0, b)) 1 (0, a)) 0 (4, 253), [], g)) rfl
            dsimp only at h
            refine Or.inr (⟨⟨hc7, hc11, hc18, hc22, hc26⟩, ?_⟩)
            exact ⟨_, rfl, rfl, rfl, h⟩
theorem m_kn9 {sv : Nat → Int32} {L n : Nat} {lf : dlf} {g : cg} {o : cg × Option cv} {W P : Nat} {fa : Int} (rW : W ≤ 5) (rP : P ≤ 5) (hfa : g 254 (19 + 6 * W) = fa) (h : zr sv L n 286 9 lf [] g o) (hl0 : lf 0 = (4, 253)) (hl1 : lf 1 = (0, (W : Int))) (hl2 : lf 2 = (0, (P : Int))) : ((ban (bsr fa ((P : Int))) 1 ≠ 1) ∧ (o = (cup g 253 2 0, some (0, 0)))) ∨ ((ban (bsr fa ((P : Int))) 1 = 1) ∧ (o = (cup g 253 2 0, some (0, 1)))) := by
  rw [zov hl0, zov hl1, zov hl2] at h
  have h := zm zy_286 h 4 (q := (13, dset (dset (dset lf 2 (0, (P : Int))) 1 (0, (W : Int))) 0 (4, 253), [(0, (P : Int)), (0, (W : Int)), (4, 253), (4, 253)], g)) rfl
  dsimp only at h
  obtain ⟨gz1, rz2, hk, h⟩ := zcallI zy_286 h rfl rfl zy_214 zk_214
  dsimp only at hk h
  have hO3 := h
  have h := hk
  clear hk
  have h := zm zy_214 h 4 (q := (6, darg 0 [(4, 253), (0, (W : Int)), (0, (P : Int))], [(0, (W : Int)), (4, 254), (4, 253)], g)) rfl
  dsimp only at h
  obtain ⟨gz4, rz5, hk, h⟩ := zcallI zy_214 h rfl rfl zy_209 zk_209
  dsimp only at hk h
  have hO6 := h
  have h := hk
  clear hk
  have h := zm zy_209 h 5 (q := (7, darg 0 [(0, (W : Int))], [(0, w32 (15 + (w32 (6 * ((W : Int))))))], g)) rfl
  dsimp only at h
  try rw [w32_eq (z := 6 * ((W : Int))) (v := 6 * (W : Int)) (by omega) (by omega) (by omega)] at h
  try rw [w32_eq (z := 15 + (6 * (W : Int))) (v := 15 + 6 * (W : Int)) (by omega) (by omega) (by omega)] at h
  have h := zret zy_209 h rfl rfl
  obtain ⟨e1, e2⟩ := oI h
  have h := hO6
  rw [e1, e2] at h
  clear e1 e2
  clear hO6
  have h := zm zy_214 h 2 (q := (11, darg 0 [(4, 253), (0, (W : Int)), (0, (P : Int))], [(0, w32 ((15 + 6 * (W : Int)) + 4)), (4, 254), (4, 253)], g)) rfl
  dsimp only at h
  try rw [w32_eq (z := (15 + 6 * (W : Int)) + 4) (v := 19 + 6 * (W : Int)) (by omega) (by omega) (by omega)] at h
  have h := zald zy_214 h rfl rfl (dvb_254 (i := 19 + 6 * (W : Int)) (by omega) (by omega))
  dsimp only at h
  try rw [show (19 + 6 * (W : Int)).toNat = 19 + 6 * W from by omega] at h
  try rw [hfa] at h
  have h := zm zy_214 h 1 (q := (13, darg 0 [(4, 253), (0, (W : Int)), (0, (P : Int))], [(0, (P : Int)), (0, fa), (4, 253)], g)) rfl
  dsimp only at h
  obtain ⟨gz7, rz8, hk, h⟩ := zcallI zy_214 h rfl rfl zy_215 zk_215
  dsimp only at hk h
  have hO9 := h
  have h := hk
  clear hk
  have h := zm zy_215 h 7 (q := (cond (crel .ne (ban (bsr fa ((P : Int))) 1) 1) 13 9, darg 0 [(4, 253), (0, fa), (0, (P : Int))], [], g)) rfl
  dsimp only at h
  rcases zif_ne h with ⟨hc10, h⟩ | ⟨hc10, h⟩
  · have h := zm zy_215 h 1 (q := (14, darg 0 [(4, 253), (0, fa), (0, (P : Int))], [(0, 0)], g)) rfl
    dsimp only at h
    have h := zret zy_215 h rfl rfl
    obtain ⟨e1, e2⟩ := oI h
    have h := hO9
    rw [e1, e2] at h
    clear e1 e2
    clear hO9
    have h := zret zy_214 h rfl rfl
    obtain ⟨e1, e2⟩ := oI h
    have h := hO3
    rw [e1, e2] at h
    clear e1 e2
    clear hO3
    have h := zm zy_286 h 2 (q := (24, dset (dset (dset lf 2 (0, (P : Int))) 1 (0, (W : Int))) 0 (4, 253), [(0, 0), (4, 253)], g)) rfl
    dsimp only at h
    obtain ⟨gz11, rz12, hk, h⟩ := zcallI zy_286 h rfl rfl zy_192 zk_192
    dsimp only at hk h
    have hO13 := h
    have h := hk
    clear hk
    have h := zm zy_192 h 4 (q := (6, darg 0 [(4, 253), (0, 0)], [(0, 0)], cup g 253 2 0)) rfl
    dsimp only at h
    have h := zret zy_192 h rfl rfl
    obtain ⟨e1, e2⟩ := oI h
    have h := hO13
    rw [e1, e2] at h
    clear e1 e2
    clear hO13
    have h := zm zy_286 h 1 (q := (35, dset (dset (dset lf 2 (0, (P : Int))) 1 (0, (W : Int))) 0 (4, 253), [(0, 0)], cup g 253 2 0)) rfl
    dsimp only at h
    refine Or.inl (⟨hc10, ?_⟩)
    exact zret zy_286 h rfl rfl
  · have h := zm zy_215 h 2 (q := (14, darg 0 [(4, 253), (0, fa), (0, (P : Int))], [(0, 1)], g)) rfl
    dsimp only at h
    have h := zret zy_215 h rfl rfl
    obtain ⟨e1, e2⟩ := oI h
    have h := hO9
    rw [e1, e2] at h
    clear e1 e2
    clear hO9
    have h := zret zy_214 h rfl rfl
    obtain ⟨e1, e2⟩ := oI h
    have h := hO3
    rw [e1, e2] at h
    clear e1 e2
    clear hO3
    have h := zm zy_286 h 3 (q := (24, dset (dset (dset lf 2 (0, (P : Int))) 1 (0, (W : Int))) 0 (4, 253), [(0, 1), (4, 253)], g)) rfl
    dsimp only at h
    obtain ⟨gz14, rz15, hk, h⟩ := zcallI zy_286 h rfl rfl zy_192 zk_192
    dsimp only at hk h
    have hO16 := h
    have h := hk
    clear hk
    have h := zm zy_192 h 4 (q := (6, darg 0 [(4, 253), (0, 1)], [(0, 1)], cup g 253 2 0)) rfl
    dsimp only at h
    have h := zret zy_192 h rfl rfl
    obtain ⟨e1, e2⟩ := oI h
    have h := hO16
    rw [e1, e2] at h
    clear e1 e2
    clear hO16
    have h := zm zy_286 h 1 (q := (35, dset (dset (dset lf 2 (0, (P : Int))) 1 (0, (W : Int))) 0 (4, 253), [(0, 1)], cup g 253 2 0)) rfl
    dsimp only at h
    refine Or.inr (⟨hc10, ?_⟩)
    exact zret zy_286 h rfl rfl
theorem t_kw0 {sv : Nat → Int32} {L n : Nat} {lf : dlf} {g : cg} {o : cg × Option cv} {a b : Int} (h : zr sv L n 289 0 lf [] g o) (hl0 : lf 0 = (4, 0)) (hl1 : lf 1 = (0, a)) (hl2 : lf 2 = (0, b)) : (((a < 0) ∨ (0 ≤ a ∧ g 3 3 ≤ a) ∨ (0 ≤ a ∧ a < g 3 3 ∧ b < 0) ∨ (0 ≤ a ∧ a < g 3 3 ∧ 0 ≤ b ∧ 8 ≤ b)) ∧ (o = (cup g 0 0 1, some (0, (-1))))) ∨ ((0 ≤ a ∧ a < g 3 3 ∧ 0 ≤ b ∧ b < 8) ∧ (∃ lf', lf' 0 = (4, 0) ∧ lf' 1 = (0, a) ∧ lf' 2 = (0, b) ∧ zr sv L n 289 24 lf' [] g o)) := by
  rw [zov hl0, zov hl1, zov hl2] at h
  have h := zm zy_289 h 3 (q := (5, dset (dset (dset lf 2 (0, b)) 1 (0, a)) 0 (4, 0), [(0, a), (4, 3)], g)) rfl
  dsimp only at h
  obtain ⟨gz1, rz2, hk, h⟩ := zcallI zy_289 h rfl rfl zy_81 zk_81
  dsimp only at hk h
  have hO3 := h
  have h := hk
  clear hk
  have h := zm zy_81 h 2 (q := (cond (crel .lt a 0) 16 4, darg 0 [(4, 3), (0, a)], [], g)) rfl
  dsimp only at h
  rcases zif_lt h with ⟨hc4, h⟩ | ⟨hc4, h⟩
  · have h := zm zy_81 h 1 (q := (17, darg 0 [(4, 3), (0, a)], [(0, 0)], g)) rfl
    dsimp only at h
    have h := zret zy_81 h rfl rfl
    obtain ⟨e1, e2⟩ := oI h
    have h := hO3
    rw [e1, e2] at h
    clear e1 e2
    clear hO3
    have h := zm zy_289 h 3 (q := (20, dset (dset (dset lf 2 (0, b)) 1 (0, a)) 0 (4, 0), [(0, 1), (4, 0)], g)) rfl
    dsimp only at h
    obtain ⟨gz5, rz6, hk, h⟩ := zcallI zy_289 h rfl rfl zy_29 zk_29
    dsimp only at hk h
    have hO7 := h
    have h := hk
    clear hk
    have h := zm zy_29 h 4 (q := (6, darg 0 [(4, 0), (0, 1)], [(0, (-1))], cup g 0 0 1)) rfl
    dsimp only at h
    have h := zret zy_29 h rfl rfl
    obtain ⟨e1, e2⟩ := oI h
    have h := hO7
    rw [e1, e2] at h
    clear e1 e2
    clear hO7
    refine Or.inl (⟨Or.inl (hc4), ?_⟩)
    exact zret zy_289 h rfl rfl
  · have h := zm zy_81 h 4 (q := (cond (crel .ge a (g 3 3)) 16 12, darg 0 [(4, 3), (0, a)], [], g)) rfl
    dsimp only at h
    rcases zif_ge h with ⟨hc8, h⟩ | ⟨hc8, h⟩
    · have h := zm zy_81 h 1 (q := (17, darg 0 [(4, 3), (0, a)], [(0, 0)], g)) rfl
      dsimp only at h
      have h := zret zy_81 h rfl rfl
      obtain ⟨e1, e2⟩ := oI h
      have h := hO3
      rw [e1, e2] at h
      clear e1 e2
      clear hO3
      have h := zm zy_289 h 3 (q := (20, dset (dset (dset lf 2 (0, b)) 1 (0, a)) 0 (4, 0), [(0, 1), (4, 0)], g)) rfl
      dsimp only at h
      obtain ⟨gz9, rz10, hk, h⟩ := zcallI zy_289 h rfl rfl zy_29 zk_29
      dsimp only at hk h
      have hO11 := h
      have h := hk
      clear hk
      have h := zm zy_29 h 4 (q := (6, darg 0 [(4, 0), (0, 1)], [(0, (-1))], cup g 0 0 1)) rfl
      dsimp only at h
      have h := zret zy_29 h rfl rfl
      obtain ⟨e1, e2⟩ := oI h
      have h := hO11
      rw [e1, e2] at h
      clear e1 e2
      clear hO11
      refine Or.inl (⟨Or.inr (Or.inl (⟨hc4, hc8⟩)), ?_⟩)
      exact zret zy_289 h rfl rfl
    · have h := zm zy_81 h 2 (q := (17, darg 0 [(4, 3), (0, a)], [(0, 1)], g)) rfl
      dsimp only at h
      have h := zret zy_81 h rfl rfl
      obtain ⟨e1, e2⟩ := oI h
      have h := hO3
      rw [e1, e2] at h
      clear e1 e2
      clear hO3
      have h := zm zy_289 h 2 (q := (12, dset (dset (dset lf 2 (0, b)) 1 (0, a)) 0 (4, 0), [(0, b)], g)) rfl
      dsimp only at h
      obtain ⟨gz12, rz13, hk, h⟩ := zcallI zy_289 h rfl rfl zy_86 zk_86
      dsimp only at hk h
      have hO14 := h
      have h := hk
      clear hk
      have h := zm zy_86 h 2 (q := (cond (crel .lt b 0) 14 4, darg 0 [(0, b)], [], g)) rfl
      dsimp only at h
      rcases zif_lt h with ⟨hc15, h⟩ | ⟨hc15, h⟩
      · have h := zm zy_86 h 1 (q := (15, darg 0 [(0, b)], [(0, 0)], g)) rfl
        dsimp only at h
        have h := zret zy_86 h rfl rfl
        obtain ⟨e1, e2⟩ := oI h
        have h := hO14
        rw [e1, e2] at h
        clear e1 e2
        clear hO14
        have h := zm zy_289 h 3 (q := (20, dset (dset (dset lf 2 (0, b)) 1 (0, a)) 0 (4, 0), [(0, 1), (4, 0)], g)) rfl
        dsimp only at h
        obtain ⟨gz16, rz17, hk, h⟩ := zcallI zy_289 h rfl rfl zy_29 zk_29
        dsimp only at hk h
        have hO18 := h
        have h := hk
        clear hk
        have h := zm zy_29 h 4 (q := (6, darg 0 [(4, 0), (0, 1)], [(0, (-1))], cup g 0 0 1)) rfl
        dsimp only at h
        have h := zret zy_29 h rfl rfl
        obtain ⟨e1, e2⟩ := oI h
        have h := hO18
        rw [e1, e2] at h
        clear e1 e2
        clear hO18
        refine Or.inl (⟨Or.inr (Or.inr (Or.inl (⟨hc4, hc8, hc15⟩))), ?_⟩)
        exact zret zy_289 h rfl rfl
      · have h := zm zy_86 h 3 (q := (cond (crel .ge b 8) 14 10, darg 0 [(0, b)], [], g)) rfl
        dsimp only at h
        rcases zif_ge h with ⟨hc19, h⟩ | ⟨hc19, h⟩
        · have h := zm zy_86 h 1 (q := (15, darg 0 [(0, b)], [(0, 0)], g)) rfl
          dsimp only at h
          have h := zret zy_86 h rfl rfl
          obtain ⟨e1, e2⟩ := oI h
          have h := hO14
          rw [e1, e2] at h
          clear e1 e2
          clear hO14
          have h := zm zy_289 h 3 (q := (20, dset (dset (dset lf 2 (0, b)) 1 (0, a)) 0 (4, 0), [(0, 1), (4, 0)], g)) rfl
          dsimp only at h
          obtain ⟨gz20, rz21, hk, h⟩ := zcallI zy_289 h rfl rfl zy_29 zk_29
          dsimp only at hk h
          have hO22 := h
          have h := hk
          clear hk
          have h := zm zy_29 h 4 (q := (6, darg 0 [(4, 0), (0, 1)], [(0, (-1))], cup g 0 0 1)) rfl
          dsimp only at h
          have h := zret zy_29 h rfl rfl
          obtain ⟨e1, e2⟩ := oI h
          have h := hO22
          rw [e1, e2] at h
          clear e1 e2
          clear hO22
          refine Or.inl (⟨Or.inr (Or.inr (Or.inr (⟨hc4, hc8, hc15, hc19⟩))), ?_⟩)
          exact zret zy_289 h rfl rfl
        · have h := zm zy_86 h 2 (q := (15, darg 0 [(0, b)], [(0, 1)], g)) rfl
          dsimp only at h
          have h := zret zy_86 h rfl rfl
          obtain ⟨e1, e2⟩ := oI h
          have h := hO14
          rw [e1, e2] at h
          clear e1 e2
          clear hO14
          have h := zm zy_289 h 1 (q := (24, dset (dset (dset lf 2 (0, b)) 1 (0, a)) 0 (4, 0), [], g)) rfl
          dsimp only at h
          refine Or.inr (⟨⟨hc4, hc8, hc15, hc19⟩, ?_⟩)
          exact ⟨_, rfl, rfl, rfl, h⟩
theorem t_kw24 {sv : Nat → Int32} {L n : Nat} {lf : dlf} {g : cg} {o : cg × Option cv} {P T : Nat} {v : Int} (rP : P ≤ 5) (rT : T ≤ 7) (hv : g (18 + 2 * P) T = v) (h : zr sv L n 289 24 lf [] g o) (hl0 : lf 0 = (4, 0)) (hl1 : lf 1 = (0, (P : Int))) (hl2 : lf 2 = (0, (T : Int))) : ((v ≠ (-1)) ∧ (o = (cup g 0 0 0, some (0, v)))) ∨ ((v = (-1)) ∧ (o = (cup g 0 0 6, some (0, (-1))))) := by
  rw [zov hl0, zov hl1, zov hl2] at h
  have h := zm zy_289 h 4 (q := (32, dset (dset (dset lf 2 (0, (T : Int))) 1 (0, (P : Int))) 0 (4, 0), [(0, (P : Int)), (4, 6)], g)) rfl
  dsimp only at h
  have h := zald zy_289 h rfl rfl (dvp_6 (i := (P : Int)) (by omega) (by omega))
  dsimp only at h
  have h := zgf zy_289 h rfl rfl (dvf_17_6 (i := (P : Int)) (by omega) (by omega))
  have h := zm zy_289 h 1 (q := (37, dset (dset (dset lf 2 (0, (T : Int))) 1 (0, (P : Int))) 0 (4, 0), [(0, (T : Int)), (4, 18 + 2 * ((P : Int)))], g)) rfl
  dsimp only at h
  have h := zald zy_289 h rfl rfl (dvr_18 (i := (P : Int)) (j := (T : Int)) (by omega) (by omega) (by omega) (by omega))
  dsimp only at h
  try rw [show (18 + 2 * ((P : Int))).toNat = 18 + 2 * P from by omega] at h
  try rw [show ((T : Int)).toNat = T from by omega] at h
  try rw [hv] at h
  have h := zm zy_289 h 4 (q := (cond (crel .ne v ((-1))) 53 44, dset (dset (dset (dset lf 2 (0, (T : Int))) 1 (0, (P : Int))) 0 (4, 0)) 3 (0, v), [], g)) rfl
  dsimp only at h
  rcases zif_ne h with ⟨hc1, h⟩ | ⟨hc1, h⟩
  · have h := zm zy_289 h 2 (q := (55, dset (dset (dset (dset lf 2 (0, (T : Int))) 1 (0, (P : Int))) 0 (4, 0)) 3 (0, v), [(0, v), (4, 0)], g)) rfl
    dsimp only at h
    obtain ⟨gz2, rz3, hk, h⟩ := zcallI zy_289 h rfl rfl zy_64 zk_64
    dsimp only at hk h
    have hO4 := h
    have h := hk
    clear hk
    have h := zm zy_64 h 4 (q := (6, darg 0 [(4, 0), (0, v)], [(0, v)], cup g 0 0 0)) rfl
    dsimp only at h
    have h := zret zy_64 h rfl rfl
    obtain ⟨e1, e2⟩ := oI h
    have h := hO4
    rw [e1, e2] at h
    clear e1 e2
    clear hO4
    refine Or.inl (⟨hc1, ?_⟩)
    exact zret zy_289 h rfl rfl
  · have h := zm zy_289 h 2 (q := (47, dset (dset (dset (dset lf 2 (0, (T : Int))) 1 (0, (P : Int))) 0 (4, 0)) 3 (0, v), [(0, 6), (4, 0)], g)) rfl
    dsimp only at h
    obtain ⟨gz5, rz6, hk, h⟩ := zcallI zy_289 h rfl rfl zy_29 zk_29
    dsimp only at hk h
    have hO7 := h
    have h := hk
    clear hk
    have h := zm zy_29 h 4 (q := (6, darg 0 [(4, 0), (0, 6)], [(0, (-1))], cup g 0 0 6)) rfl
    dsimp only at h
    have h := zret zy_29 h rfl rfl
    obtain ⟨e1, e2⟩ := oI h
    have h := hO7
    rw [e1, e2] at h
    clear e1 e2
    clear hO7
    have h := zm zy_289 h 1 (q := (58, dset (dset (dset (dset lf 2 (0, (T : Int))) 1 (0, (P : Int))) 0 (4, 0)) 3 (0, v), [(0, (-1))], cup g 0 0 6)) rfl
    dsimp only at h
    refine Or.inr (⟨hc1, ?_⟩)
    exact zret zy_289 h rfl rfl
theorem m_kw0 {sv : Nat → Int32} {L n : Nat} {lf : dlf} {g : cg} {o : cg × Option cv} {a b : Int} (h : zr sv L n 290 0 lf [] g o) (hl0 : lf 0 = (4, 253)) (hl1 : lf 1 = (0, a)) (hl2 : lf 2 = (0, b)) : (((a < 0) ∨ (0 ≤ a ∧ g 254 1 ≤ a) ∨ (0 ≤ a ∧ a < g 254 1 ∧ b < 0) ∨ (0 ≤ a ∧ a < g 254 1 ∧ 0 ≤ b ∧ 8 ≤ b)) ∧ (o = (cup g 253 2 1, some (0, (-1))))) ∨ ((0 ≤ a ∧ a < g 254 1 ∧ 0 ≤ b ∧ b < 8) ∧ (∃ lf', lf' 0 = (4, 253) ∧ lf' 1 = (0, a) ∧ lf' 2 = (0, b) ∧ zr sv L n 290 15 lf' [] g o)) := by
  rw [zov hl0, zov hl1, zov hl2] at h
  have h := zm zy_290 h 2 (q := (2, dset (dset (dset lf 2 (0, b)) 1 (0, a)) 0 (4, 253), [(0, a), (4, 253)], g)) rfl
  dsimp only at h
  obtain ⟨gz1, rz2, hk, h⟩ := zcallI zy_290 h rfl rfl zy_208 zk_208
  dsimp only at hk h
  have hO3 := h
  have h := hk
  clear hk
  have h := zm zy_208 h 2 (q := (cond (crel .lt a 0) 18 4, darg 0 [(4, 253), (0, a)], [], g)) rfl
  dsimp only at h
  rcases zif_lt h with ⟨hc4, h⟩ | ⟨hc4, h⟩
  · have h := zm zy_208 h 1 (q := (19, darg 0 [(4, 253), (0, a)], [(0, 0)], g)) rfl
    dsimp only at h
    have h := zret zy_208 h rfl rfl
    obtain ⟨e1, e2⟩ := oI h
    have h := hO3
    rw [e1, e2] at h
    clear e1 e2
    clear hO3
    have h := zm zy_290 h 3 (q := (30, dset (dset (dset lf 2 (0, b)) 1 (0, a)) 0 (4, 253), [(0, 1), (4, 253)], g)) rfl
    dsimp only at h
    obtain ⟨gz5, rz6, hk, h⟩ := zcallI zy_290 h rfl rfl zy_170 zk_170
    dsimp only at hk h
    have hO7 := h
    have h := hk
    clear hk
    have h := zm zy_170 h 4 (q := (6, darg 0 [(4, 253), (0, 1)], [(0, (-1))], cup g 253 2 1)) rfl
    dsimp only at h
    have h := zret zy_170 h rfl rfl
    obtain ⟨e1, e2⟩ := oI h
    have h := hO7
    rw [e1, e2] at h
    clear e1 e2
    clear hO7
    refine Or.inl (⟨Or.inl (hc4), ?_⟩)
    exact zret zy_290 h rfl rfl
  · have h := zm zy_208 h 6 (q := (cond (crel .ge a (g 254 1)) 18 14, darg 0 [(4, 253), (0, a)], [], g)) rfl
    dsimp only at h
    rcases zif_ge h with ⟨hc8, h⟩ | ⟨hc8, h⟩
    · have h := zm zy_208 h 1 (q := (19, darg 0 [(4, 253), (0, a)], [(0, 0)], g)) rfl
      dsimp only at h
      have h := zret zy_208 h rfl rfl
      obtain ⟨e1, e2⟩ := oI h
      have h := hO3
      rw [e1, e2] at h
      clear e1 e2
      clear hO3
      have h := zm zy_290 h 3 (q := (30, dset (dset (dset lf 2 (0, b)) 1 (0, a)) 0 (4, 253), [(0, 1), (4, 253)], g)) rfl
      dsimp only at h
      obtain ⟨gz9, rz10, hk, h⟩ := zcallI zy_290 h rfl rfl zy_170 zk_170
      dsimp only at hk h
      have hO11 := h
      have h := hk
      clear hk
      have h := zm zy_170 h 4 (q := (6, darg 0 [(4, 253), (0, 1)], [(0, (-1))], cup g 253 2 1)) rfl
      dsimp only at h
      have h := zret zy_170 h rfl rfl
      obtain ⟨e1, e2⟩ := oI h
      have h := hO11
      rw [e1, e2] at h
      clear e1 e2
      clear hO11
      refine Or.inl (⟨Or.inr (Or.inl (⟨hc4, hc8⟩)), ?_⟩)
      exact zret zy_290 h rfl rfl
    · have h := zm zy_208 h 2 (q := (19, darg 0 [(4, 253), (0, a)], [(0, 1)], g)) rfl
      dsimp only at h
      have h := zret zy_208 h rfl rfl
      obtain ⟨e1, e2⟩ := oI h
      have h := hO3
      rw [e1, e2] at h
      clear e1 e2
      clear hO3
      have h := zm zy_290 h 2 (q := (9, dset (dset (dset lf 2 (0, b)) 1 (0, a)) 0 (4, 253), [(0, b)], g)) rfl
      dsimp only at h
      obtain ⟨gz12, rz13, hk, h⟩ := zcallI zy_290 h rfl rfl zy_216 zk_216
      dsimp only at hk h
      have hO14 := h
      have h := hk
      clear hk
      have h := zm zy_216 h 2 (q := (cond (crel .lt b 0) 14 4, darg 0 [(0, b)], [], g)) rfl
      dsimp only at h
      rcases zif_lt h with ⟨hc15, h⟩ | ⟨hc15, h⟩
      · have h := zm zy_216 h 1 (q := (15, darg 0 [(0, b)], [(0, 0)], g)) rfl
        dsimp only at h
        have h := zret zy_216 h rfl rfl
        obtain ⟨e1, e2⟩ := oI h
        have h := hO14
        rw [e1, e2] at h
        clear e1 e2
        clear hO14
        have h := zm zy_290 h 3 (q := (30, dset (dset (dset lf 2 (0, b)) 1 (0, a)) 0 (4, 253), [(0, 1), (4, 253)], g)) rfl
        dsimp only at h
        obtain ⟨gz16, rz17, hk, h⟩ := zcallI zy_290 h rfl rfl zy_170 zk_170
        dsimp only at hk h
        have hO18 := h
        have h := hk
        clear hk
        have h := zm zy_170 h 4 (q := (6, darg 0 [(4, 253), (0, 1)], [(0, (-1))], cup g 253 2 1)) rfl
        dsimp only at h
        have h := zret zy_170 h rfl rfl
        obtain ⟨e1, e2⟩ := oI h
        have h := hO18
        rw [e1, e2] at h
        clear e1 e2
        clear hO18
        refine Or.inl (⟨Or.inr (Or.inr (Or.inl (⟨hc4, hc8, hc15⟩))), ?_⟩)
        exact zret zy_290 h rfl rfl
      · have h := zm zy_216 h 3 (q := (cond (crel .ge b 8) 14 10, darg 0 [(0, b)], [], g)) rfl
        dsimp only at h
        rcases zif_ge h with ⟨hc19, h⟩ | ⟨hc19, h⟩
        · have h := zm zy_216 h 1 (q := (15, darg 0 [(0, b)], [(0, 0)], g)) rfl
          dsimp only at h
          have h := zret zy_216 h rfl rfl
          obtain ⟨e1, e2⟩ := oI h
          have h := hO14
          rw [e1, e2] at h
          clear e1 e2
          clear hO14
          have h := zm zy_290 h 3 (q := (30, dset (dset (dset lf 2 (0, b)) 1 (0, a)) 0 (4, 253), [(0, 1), (4, 253)], g)) rfl
          dsimp only at h
          obtain ⟨gz20, rz21, hk, h⟩ := zcallI zy_290 h rfl rfl zy_170 zk_170
          dsimp only at hk h
          have hO22 := h
          have h := hk
          clear hk
          have h := zm zy_170 h 4 (q := (6, darg 0 [(4, 253), (0, 1)], [(0, (-1))], cup g 253 2 1)) rfl
          dsimp only at h
          have h := zret zy_170 h rfl rfl
          obtain ⟨e1, e2⟩ := oI h
          have h := hO22
          rw [e1, e2] at h
          clear e1 e2
          clear hO22
          refine Or.inl (⟨Or.inr (Or.inr (Or.inr (⟨hc4, hc8, hc15, hc19⟩))), ?_⟩)
          exact zret zy_290 h rfl rfl
        · have h := zm zy_216 h 2 (q := (15, darg 0 [(0, b)], [(0, 1)], g)) rfl
          dsimp only at h
          have h := zret zy_216 h rfl rfl
          obtain ⟨e1, e2⟩ := oI h
          have h := hO14
          rw [e1, e2] at h
          clear e1 e2
          clear hO14
          have h := zm zy_290 h 1 (q := (15, dset (dset (dset lf 2 (0, b)) 1 (0, a)) 0 (4, 253), [], g)) rfl
          dsimp only at h
          refine Or.inr (⟨⟨hc4, hc8, hc15, hc19⟩, ?_⟩)
          exact ⟨_, rfl, rfl, rfl, h⟩
theorem m_kw15 {sv : Nat → Int32} {L n : Nat} {lf : dlf} {g : cg} {o : cg × Option cv} {P T : Nat} {v : Int} (rP : P ≤ 5) (rT : T ≤ 7) (hv : g 254 (51 + 8 * P + T) = v) (h : zr sv L n 290 15 lf [] g o) (hl0 : lf 0 = (4, 253)) (hl1 : lf 1 = (0, (P : Int))) (hl2 : lf 2 = (0, (T : Int))) : ((v ≠ (-1)) ∧ (o = (cup g 253 2 0, some (0, v)))) ∨ ((v = (-1)) ∧ (o = (cup g 253 2 6, some (0, (-1))))) := by
  rw [zov hl0, zov hl1, zov hl2] at h
  have h := zm zy_290 h 4 (q := (19, dset (dset (dset lf 2 (0, (T : Int))) 1 (0, (P : Int))) 0 (4, 253), [(0, (T : Int)), (0, (P : Int)), (4, 253), (4, 253)], g)) rfl
  dsimp only at h
  obtain ⟨gz1, rz2, hk, h⟩ := zcallI zy_290 h rfl rfl zy_205 zk_205
  dsimp only at hk h
  have hO3 := h
  have h := hk
  clear hk
  have h := zm zy_205 h 9 (q := (13, darg 0 [(4, 253), (0, (P : Int)), (0, (T : Int))], [(0, w32 ((w32 (51 + (w32 (8 * ((P : Int)))))) + ((T : Int)))), (4, 254)], g)) rfl
  dsimp only at h
  try rw [w32_eq (z := 8 * ((P : Int))) (v := 8 * (P : Int)) (by omega) (by omega) (by omega)] at h
  try rw [w32_eq (z := 51 + (8 * (P : Int))) (v := 51 + 8 * (P : Int)) (by omega) (by omega) (by omega)] at h
  try rw [w32_eq (z := (51 + 8 * (P : Int)) + ((T : Int))) (v := 51 + 8 * (P : Int) + (T : Int)) (by omega) (by omega) (by omega)] at h
  have h := zald zy_205 h rfl rfl (dvb_254 (i := 51 + 8 * (P : Int) + (T : Int)) (by omega) (by omega))
  dsimp only at h
  try rw [show (51 + 8 * (P : Int) + (T : Int)).toNat = 51 + 8 * P + T from by omega] at h
  try rw [hv] at h
  have h := zret zy_205 h rfl rfl
  obtain ⟨e1, e2⟩ := oI h
  have h := hO3
  rw [e1, e2] at h
  clear e1 e2
  clear hO3
  obtain ⟨gz4, rz5, hk, h⟩ := zcallI zy_290 h rfl rfl zy_210 zk_210
  dsimp only at hk h
  have hO6 := h
  have h := hk
  clear hk
  have h := zm zy_210 h 3 (q := (cond (crel .ne v ((-1))) 14 5, darg 0 [(4, 253), (0, v)], [], g)) rfl
  dsimp only at h
  rcases zif_ne h with ⟨hc7, h⟩ | ⟨hc7, h⟩
  · have h := zm zy_210 h 2 (q := (16, darg 0 [(4, 253), (0, v)], [(0, v), (4, 253)], g)) rfl
    dsimp only at h
    obtain ⟨gz8, rz9, hk, h⟩ := zcallI zy_210 h rfl rfl zy_192 zk_192
    dsimp only at hk h
    have hO10 := h
    have h := hk
    clear hk
    have h := zm zy_192 h 4 (q := (6, darg 0 [(4, 253), (0, v)], [(0, v)], cup g 253 2 0)) rfl
    dsimp only at h
    have h := zret zy_192 h rfl rfl
    obtain ⟨e1, e2⟩ := oI h
    have h := hO10
    rw [e1, e2] at h
    clear e1 e2
    clear hO10
    have h := zret zy_210 h rfl rfl
    obtain ⟨e1, e2⟩ := oI h
    have h := hO6
    rw [e1, e2] at h
    clear e1 e2
    clear hO6
    have h := zm zy_290 h 1 (q := (33, dset (dset (dset lf 2 (0, (T : Int))) 1 (0, (P : Int))) 0 (4, 253), [(0, v)], cup g 253 2 0)) rfl
    dsimp only at h
    refine Or.inl (⟨hc7, ?_⟩)
    exact zret zy_290 h rfl rfl
  · have h := zm zy_210 h 2 (q := (8, darg 0 [(4, 253), (0, v)], [(0, 6), (4, 253)], g)) rfl
    dsimp only at h
    obtain ⟨gz11, rz12, hk, h⟩ := zcallI zy_210 h rfl rfl zy_170 zk_170
    dsimp only at hk h
    have hO13 := h
    have h := hk
    clear hk
    have h := zm zy_170 h 4 (q := (6, darg 0 [(4, 253), (0, 6)], [(0, (-1))], cup g 253 2 6)) rfl
    dsimp only at h
    have h := zret zy_170 h rfl rfl
    obtain ⟨e1, e2⟩ := oI h
    have h := hO13
    rw [e1, e2] at h
    clear e1 e2
    clear hO13
    have h := zm zy_210 h 1 (q := (19, darg 0 [(4, 253), (0, v)], [(0, (-1))], cup g 253 2 6)) rfl
    dsimp only at h
    have h := zret zy_210 h rfl rfl
    obtain ⟨e1, e2⟩ := oI h
    have h := hO6
    rw [e1, e2] at h
    clear e1 e2
    clear hO6
    have h := zm zy_290 h 1 (q := (33, dset (dset (dset lf 2 (0, (T : Int))) 1 (0, (P : Int))) 0 (4, 253), [(0, (-1))], cup g 253 2 6)) rfl
    dsimp only at h
    refine Or.inr (⟨hc7, ?_⟩)
    exact zret zy_290 h rfl rfl
theorem t_oa0 {sv : Nat → Int32} {L n : Nat} {lf : dlf} {g : cg} {o : cg × Option cv} {a b : Int} (h : zr sv L n 291 0 lf [] g o) (hl0 : lf 0 = (4, 0)) (hl1 : lf 1 = (0, a)) (hl2 : lf 2 = (0, b)) : (((a < 0) ∨ (0 ≤ a ∧ g 3 9 ≤ a)) ∧ (o = (cup g 0 0 1, some (0, (-1))))) ∨ ((0 ≤ a ∧ a < g 3 9) ∧ (∃ lf', lf' 0 = (4, 0) ∧ lf' 1 = (0, a) ∧ lf' 2 = (0, b) ∧ zr sv L n 291 17 lf' [] g o)) := by
  rw [zov hl0, zov hl1, zov hl2] at h
  have h := zm zy_291 h 3 (q := (5, dset (dset (dset lf 2 (0, b)) 1 (0, a)) 0 (4, 0), [(0, a), (4, 3)], g)) rfl
  dsimp only at h
  obtain ⟨gz1, rz2, hk, h⟩ := zcallI zy_291 h rfl rfl zy_87 zk_87
  dsimp only at hk h
  have hO3 := h
  have h := hk
  clear hk
  have h := zm zy_87 h 2 (q := (cond (crel .lt a 0) 16 4, darg 0 [(4, 3), (0, a)], [], g)) rfl
  dsimp only at h
  rcases zif_lt h with ⟨hc4, h⟩ | ⟨hc4, h⟩
  · have h := zm zy_87 h 1 (q := (17, darg 0 [(4, 3), (0, a)], [(0, 0)], g)) rfl
    dsimp only at h
    have h := zret zy_87 h rfl rfl
    obtain ⟨e1, e2⟩ := oI h
    have h := hO3
    rw [e1, e2] at h
    clear e1 e2
    clear hO3
    have h := zm zy_291 h 3 (q := (13, dset (dset (dset lf 2 (0, b)) 1 (0, a)) 0 (4, 0), [(0, 1), (4, 0)], g)) rfl
    dsimp only at h
    obtain ⟨gz5, rz6, hk, h⟩ := zcallI zy_291 h rfl rfl zy_29 zk_29
    dsimp only at hk h
    have hO7 := h
    have h := hk
    clear hk
    have h := zm zy_29 h 4 (q := (6, darg 0 [(4, 0), (0, 1)], [(0, (-1))], cup g 0 0 1)) rfl
    dsimp only at h
    have h := zret zy_29 h rfl rfl
    obtain ⟨e1, e2⟩ := oI h
    have h := hO7
    rw [e1, e2] at h
    clear e1 e2
    clear hO7
    refine Or.inl (⟨Or.inl (hc4), ?_⟩)
    exact zret zy_291 h rfl rfl
  · have h := zm zy_87 h 4 (q := (cond (crel .ge a (g 3 9)) 16 12, darg 0 [(4, 3), (0, a)], [], g)) rfl
    dsimp only at h
    rcases zif_ge h with ⟨hc8, h⟩ | ⟨hc8, h⟩
    · have h := zm zy_87 h 1 (q := (17, darg 0 [(4, 3), (0, a)], [(0, 0)], g)) rfl
      dsimp only at h
      have h := zret zy_87 h rfl rfl
      obtain ⟨e1, e2⟩ := oI h
      have h := hO3
      rw [e1, e2] at h
      clear e1 e2
      clear hO3
      have h := zm zy_291 h 3 (q := (13, dset (dset (dset lf 2 (0, b)) 1 (0, a)) 0 (4, 0), [(0, 1), (4, 0)], g)) rfl
      dsimp only at h
      obtain ⟨gz9, rz10, hk, h⟩ := zcallI zy_291 h rfl rfl zy_29 zk_29
      dsimp only at hk h
      have hO11 := h
      have h := hk
      clear hk
      have h := zm zy_29 h 4 (q := (6, darg 0 [(4, 0), (0, 1)], [(0, (-1))], cup g 0 0 1)) rfl
      dsimp only at h
      have h := zret zy_29 h rfl rfl
      obtain ⟨e1, e2⟩ := oI h
      have h := hO11
      rw [e1, e2] at h
      clear e1 e2
      clear hO11
      refine Or.inl (⟨Or.inr (⟨hc4, hc8⟩), ?_⟩)
      exact zret zy_291 h rfl rfl
    · have h := zm zy_87 h 2 (q := (17, darg 0 [(4, 3), (0, a)], [(0, 1)], g)) rfl
      dsimp only at h
      have h := zret zy_87 h rfl rfl
      obtain ⟨e1, e2⟩ := oI h
      have h := hO3
      rw [e1, e2] at h
      clear e1 e2
      clear hO3
      have h := zm zy_291 h 1 (q := (17, dset (dset (dset lf 2 (0, b)) 1 (0, a)) 0 (4, 0), [], g)) rfl
      dsimp only at h
      refine Or.inr (⟨⟨hc4, hc8⟩, ?_⟩)
      exact ⟨_, rfl, rfl, rfl, h⟩
theorem t_oa17 {sv : Nat → Int32} {L n : Nat} {lf : dlf} {g : cg} {o : cg × Option cv} {w p q t k : Nat} {f s b e v : Int} (rw : w ≤ 5) (rp : p ≤ 5) (rq : q ≤ 4) (rt : t ≤ 7) (rk : k ≤ 15) (hO : OHC g k w p q t f s b) (hv : g (18 + 2 * p) t = v) (h : zr sv L n 291 17 lf [] g o) (hl0 : lf 0 = (4, 0)) (hl1 : lf 1 = (0, (k : Int))) (hl2 : lf 2 = (0, e)) : ((e = 0) ∧ (o = (cup g 0 0 0, some (0, (w : Int))))) ∨ ((e = 1) ∧ (o = (cup g 0 0 0, some (0, (p : Int))))) ∨ ((e = 2) ∧ (o = (cup g 0 0 0, some (0, (q : Int))))) ∨ ((e = 3) ∧ (o = (cup g 0 0 0, some (0, (t : Int))))) ∨ ((e = 4) ∧ (o = (cup g 0 0 0, some (0, f)))) ∨ ((e = 5) ∧ (o = (cup g 0 0 0, some (0, s)))) ∨ (((e = 6 ∧ b = 0) ∨ (e = 7 ∧ v ≠ (q : Int))) ∧ (o = (cup g 0 0 0, some (0, 0)))) ∨ (((e = 6 ∧ b ≠ 0) ∨ (e = 7 ∧ v = (q : Int))) ∧ (o = (cup g 0 0 0, some (0, 1)))) ∨ (((e < 0 ∨ 7 < e)) ∧ (o = (cup g 0 0 1, some (0, (-1))))) := by
  rw [zov hl0, zov hl1, zov hl2] at h
  have h := zm zy_291 h 4 (q := (25, dset (dset (dset lf 2 (0, e)) 1 (0, (k : Int))) 0 (4, 0), [(0, (k : Int)), (4, 7)], g)) rfl
  dsimp only at h
  have h := zald zy_291 h rfl rfl (dvp_7 (i := (k : Int)) (by omega) (by omega))
  dsimp only at h
  have h := zm zy_291 h 2 (q := (28, dset (dset (dset (dset lf 2 (0, e)) 1 (0, (k : Int))) 0 (4, 0)) 3 (4, 29 + ((k : Int))), [(0, e)], g)) rfl
  dsimp only at h
  rcases ztab_0_7 (z := e) with hz | hz | hz | hz | hz | hz | hz | hz | hz
  · have hz0 := hz
    have h := ztabv h hz
    have h := zm zy_291 h 1 (q := (76, dset (dset (dset (dset lf 2 (0, e)) 1 (0, (k : Int))) 0 (4, 0)) 3 (4, 29 + ((k : Int))), [], g)) rfl
    dsimp only at h
    have h := zm zy_291 h 2 (q := (78, dset (dset (dset (dset lf 2 (0, e)) 1 (0, (k : Int))) 0 (4, 0)) 3 (4, 29 + ((k : Int))), [(4, 29 + ((k : Int))), (4, 0)], g)) rfl
    dsimp only at h
    have h := zgf zy_291 h rfl rfl (dvf_29_0 (i := (k : Int)) (by omega) (by omega))
    dsimp only at h
    try rw [show (29 + ((k : Int))).toNat = 29 + k from by omega] at h
    try rw [hO.1] at h
    obtain ⟨gz1, rz2, hk, h⟩ := zcallI zy_291 h rfl rfl zy_64 zk_64
    dsimp only at hk h
    have hO3 := h
    have h := hk
    clear hk
    have h := zm zy_64 h 4 (q := (6, darg 0 [(4, 0), (0, (w : Int))], [(0, (w : Int))], cup g 0 0 0)) rfl
    dsimp only at h
    have h := zret zy_64 h rfl rfl
    obtain ⟨e1, e2⟩ := oI h
    have h := hO3
    rw [e1, e2] at h
    clear e1 e2
    clear hO3
    refine Or.inl (⟨hz0, ?_⟩)
    exact zret zy_291 h rfl rfl
  · have hz0 := hz
    have h := ztabv h hz
    have h := zm zy_291 h 1 (q := (85, dset (dset (dset (dset lf 2 (0, e)) 1 (0, (k : Int))) 0 (4, 0)) 3 (4, 29 + ((k : Int))), [], g)) rfl
    dsimp only at h
    have h := zm zy_291 h 2 (q := (87, dset (dset (dset (dset lf 2 (0, e)) 1 (0, (k : Int))) 0 (4, 0)) 3 (4, 29 + ((k : Int))), [(4, 29 + ((k : Int))), (4, 0)], g)) rfl
    dsimp only at h
    have h := zgf zy_291 h rfl rfl (dvf_29_1 (i := (k : Int)) (by omega) (by omega))
    dsimp only at h
    try rw [show (29 + ((k : Int))).toNat = 29 + k from by omega] at h
    try rw [hO.2.1] at h
    obtain ⟨gz4, rz5, hk, h⟩ := zcallI zy_291 h rfl rfl zy_64 zk_64
    dsimp only at hk h
    have hO6 := h
    have h := hk
    clear hk
    have h := zm zy_64 h 4 (q := (6, darg 0 [(4, 0), (0, (p : Int))], [(0, (p : Int))], cup g 0 0 0)) rfl
    dsimp only at h
    have h := zret zy_64 h rfl rfl
    obtain ⟨e1, e2⟩ := oI h
    have h := hO6
    rw [e1, e2] at h
    clear e1 e2
    clear hO6
    refine Or.inr (Or.inl (⟨hz0, ?_⟩))
    exact zret zy_291 h rfl rfl
  · have hz0 := hz
    have h := ztabv h hz
    have h := zm zy_291 h 1 (q := (94, dset (dset (dset (dset lf 2 (0, e)) 1 (0, (k : Int))) 0 (4, 0)) 3 (4, 29 + ((k : Int))), [], g)) rfl
    dsimp only at h
    have h := zm zy_291 h 2 (q := (96, dset (dset (dset (dset lf 2 (0, e)) 1 (0, (k : Int))) 0 (4, 0)) 3 (4, 29 + ((k : Int))), [(4, 29 + ((k : Int))), (4, 0)], g)) rfl
    dsimp only at h
    have h := zgf zy_291 h rfl rfl (dvf_29_2 (i := (k : Int)) (by omega) (by omega))
    dsimp only at h
    try rw [show (29 + ((k : Int))).toNat = 29 + k from by omega] at h
    try rw [hO.2.2.1] at h
    obtain ⟨gz7, rz8, hk, h⟩ := zcallI zy_291 h rfl rfl zy_64 zk_64
    dsimp only at hk h
    have hO9 := h
    have h := hk
    clear hk
    have h := zm zy_64 h 4 (q := (6, darg 0 [(4, 0), (0, (q : Int))], [(0, (q : Int))], cup g 0 0 0)) rfl
    dsimp only at h
    have h := zret zy_64 h rfl rfl
    obtain ⟨e1, e2⟩ := oI h
    have h := hO9
    rw [e1, e2] at h
    clear e1 e2
    clear hO9
    refine Or.inr (Or.inr (Or.inl (⟨hz0, ?_⟩)))
    exact zret zy_291 h rfl rfl
  · have hz0 := hz
    have h := ztabv h hz
    have h := zm zy_291 h 1 (q := (103, dset (dset (dset (dset lf 2 (0, e)) 1 (0, (k : Int))) 0 (4, 0)) 3 (4, 29 + ((k : Int))), [], g)) rfl
    dsimp only at h
    have h := zm zy_291 h 2 (q := (105, dset (dset (dset (dset lf 2 (0, e)) 1 (0, (k : Int))) 0 (4, 0)) 3 (4, 29 + ((k : Int))), [(4, 29 + ((k : Int))), (4, 0)], g)) rfl
    dsimp only at h
    have h := zgf zy_291 h rfl rfl (dvf_29_3 (i := (k : Int)) (by omega) (by omega))
    dsimp only at h
    try rw [show (29 + ((k : Int))).toNat = 29 + k from by omega] at h
    try rw [hO.2.2.2.1] at h
    obtain ⟨gz10, rz11, hk, h⟩ := zcallI zy_291 h rfl rfl zy_64 zk_64
    dsimp only at hk h
    have hO12 := h
    have h := hk
    clear hk
    have h := zm zy_64 h 4 (q := (6, darg 0 [(4, 0), (0, (t : Int))], [(0, (t : Int))], cup g 0 0 0)) rfl
    dsimp only at h
    have h := zret zy_64 h rfl rfl
    obtain ⟨e1, e2⟩ := oI h
    have h := hO12
    rw [e1, e2] at h
    clear e1 e2
    clear hO12
    refine Or.inr (Or.inr (Or.inr (Or.inl (⟨hz0, ?_⟩))))
    exact zret zy_291 h rfl rfl
  · have hz0 := hz
    have h := ztabv h hz
    have h := zm zy_291 h 1 (q := (112, dset (dset (dset (dset lf 2 (0, e)) 1 (0, (k : Int))) 0 (4, 0)) 3 (4, 29 + ((k : Int))), [], g)) rfl
    dsimp only at h
    have h := zm zy_291 h 2 (q := (114, dset (dset (dset (dset lf 2 (0, e)) 1 (0, (k : Int))) 0 (4, 0)) 3 (4, 29 + ((k : Int))), [(4, 29 + ((k : Int))), (4, 0)], g)) rfl
    dsimp only at h
    have h := zgf zy_291 h rfl rfl (dvf_29_4 (i := (k : Int)) (by omega) (by omega))
    dsimp only at h
    try rw [show (29 + ((k : Int))).toNat = 29 + k from by omega] at h
    try rw [hO.2.2.2.2.1] at h
    obtain ⟨gz13, rz14, hk, h⟩ := zcallI zy_291 h rfl rfl zy_64 zk_64
    dsimp only at hk h
    have hO15 := h
    have h := hk
    clear hk
    have h := zm zy_64 h 4 (q := (6, darg 0 [(4, 0), (0, f)], [(0, f)], cup g 0 0 0)) rfl
    dsimp only at h
    have h := zret zy_64 h rfl rfl
    obtain ⟨e1, e2⟩ := oI h
    have h := hO15
    rw [e1, e2] at h
    clear e1 e2
    clear hO15
    refine Or.inr (Or.inr (Or.inr (Or.inr (Or.inl (⟨hz0, ?_⟩)))))
    exact zret zy_291 h rfl rfl
  · have hz0 := hz
    have h := ztabv h hz
    have h := zm zy_291 h 1 (q := (121, dset (dset (dset (dset lf 2 (0, e)) 1 (0, (k : Int))) 0 (4, 0)) 3 (4, 29 + ((k : Int))), [], g)) rfl
    dsimp only at h
    have h := zm zy_291 h 2 (q := (123, dset (dset (dset (dset lf 2 (0, e)) 1 (0, (k : Int))) 0 (4, 0)) 3 (4, 29 + ((k : Int))), [(4, 29 + ((k : Int))), (4, 0)], g)) rfl
    dsimp only at h
    have h := zgf zy_291 h rfl rfl (dvf_29_5 (i := (k : Int)) (by omega) (by omega))
    dsimp only at h
    try rw [show (29 + ((k : Int))).toNat = 29 + k from by omega] at h
    try rw [hO.2.2.2.2.2.1] at h
    obtain ⟨gz16, rz17, hk, h⟩ := zcallI zy_291 h rfl rfl zy_64 zk_64
    dsimp only at hk h
    have hO18 := h
    have h := hk
    clear hk
    have h := zm zy_64 h 4 (q := (6, darg 0 [(4, 0), (0, s)], [(0, s)], cup g 0 0 0)) rfl
    dsimp only at h
    have h := zret zy_64 h rfl rfl
    obtain ⟨e1, e2⟩ := oI h
    have h := hO18
    rw [e1, e2] at h
    clear e1 e2
    clear hO18
    refine Or.inr (Or.inr (Or.inr (Or.inr (Or.inr (Or.inl (⟨hz0, ?_⟩))))))
    exact zret zy_291 h rfl rfl
  · have hz0 := hz
    have h := ztabv h hz
    have h := zm zy_291 h 1 (q := (130, dset (dset (dset (dset lf 2 (0, e)) 1 (0, (k : Int))) 0 (4, 0)) 3 (4, 29 + ((k : Int))), [], g)) rfl
    dsimp only at h
    have h := zm zy_291 h 2 (q := (132, dset (dset (dset (dset lf 2 (0, e)) 1 (0, (k : Int))) 0 (4, 0)) 3 (4, 29 + ((k : Int))), [(4, 29 + ((k : Int))), (4, 0)], g)) rfl
    dsimp only at h
    have h := zgf zy_291 h rfl rfl (dvf_29_6 (i := (k : Int)) (by omega) (by omega))
    dsimp only at h
    try rw [show (29 + ((k : Int))).toNat = 29 + k from by omega] at h
    try rw [hO.2.2.2.2.2.2] at h
    have h := zm zy_291 h 1 (q := (cond (crel .eq b 0) 142 138, dset (dset (dset (dset lf 2 (0, e)) 1 (0, (k : Int))) 0 (4, 0)) 3 (4, 29 + ((k : Int))), [(4, 0)], g)) rfl
    dsimp only at h
    rcases zif_eq h with ⟨hc19, h⟩ | ⟨hc19, h⟩
    · have h := zm zy_291 h 1 (q := (143, dset (dset (dset (dset lf 2 (0, e)) 1 (0, (k : Int))) 0 (4, 0)) 3 (4, 29 + ((k : Int))), [(0, 0), (4, 0)], g)) rfl
      dsimp only at h
      obtain ⟨gz20, rz21, hk, h⟩ := zcallI zy_291 h rfl rfl zy_64 zk_64
      dsimp only at hk h
      have hO22 := h
      have h := hk
      clear hk
      have h := zm zy_64 h 4 (q := (6, darg 0 [(4, 0), (0, 0)], [(0, 0)], cup g 0 0 0)) rfl
      dsimp only at h
      have h := zret zy_64 h rfl rfl
      obtain ⟨e1, e2⟩ := oI h
      have h := hO22
      rw [e1, e2] at h
      clear e1 e2
      clear hO22
      refine Or.inr (Or.inr (Or.inr (Or.inr (Or.inr (Or.inr (Or.inl (⟨Or.inl (⟨hz0, hc19⟩), ?_⟩)))))))
      exact zret zy_291 h rfl rfl
    · have h := zm zy_291 h 2 (q := (143, dset (dset (dset (dset lf 2 (0, e)) 1 (0, (k : Int))) 0 (4, 0)) 3 (4, 29 + ((k : Int))), [(0, 1), (4, 0)], g)) rfl
      dsimp only at h
      obtain ⟨gz23, rz24, hk, h⟩ := zcallI zy_291 h rfl rfl zy_64 zk_64
      dsimp only at hk h
      have hO25 := h
      have h := hk
      clear hk
      have h := zm zy_64 h 4 (q := (6, darg 0 [(4, 0), (0, 1)], [(0, 1)], cup g 0 0 0)) rfl
      dsimp only at h
      have h := zret zy_64 h rfl rfl
      obtain ⟨e1, e2⟩ := oI h
      have h := hO25
      rw [e1, e2] at h
      clear e1 e2
      clear hO25
      refine Or.inr (Or.inr (Or.inr (Or.inr (Or.inr (Or.inr (Or.inr (Or.inl (⟨Or.inl (⟨hz0, hc19⟩), ?_⟩))))))))
      exact zret zy_291 h rfl rfl
  · have hz0 := hz
    have h := ztabv h hz
    have h := zm zy_291 h 1 (q := (147, dset (dset (dset (dset lf 2 (0, e)) 1 (0, (k : Int))) 0 (4, 0)) 3 (4, 29 + ((k : Int))), [], g)) rfl
    dsimp only at h
    have h := zm zy_291 h 4 (q := (153, dset (dset (dset (dset lf 2 (0, e)) 1 (0, (k : Int))) 0 (4, 0)) 3 (4, 29 + ((k : Int))), [(4, 29 + ((k : Int))), (4, 3), (4, 0)], g)) rfl
    dsimp only at h
    obtain ⟨gz26, rz27, hk, h⟩ := zcallI zy_291 h rfl rfl zy_88 zk_88
    dsimp only at hk h
    have hO28 := h
    have h := hk
    clear hk
    have h := zm zy_88 h 3 (q := (5, darg 0 [(4, 3), (4, 29 + ((k : Int)))], [(4, 29 + ((k : Int))), (4, 6)], g)) rfl
    dsimp only at h
    have h := zgf zy_88 h rfl rfl (dvf_29_1 (i := (k : Int)) (by omega) (by omega))
    dsimp only at h
    try rw [show (29 + ((k : Int))).toNat = 29 + k from by omega] at h
    try rw [hO.2.1] at h
    have h := zald zy_88 h rfl rfl (dvp_6 (i := (p : Int)) (by omega) (by omega))
    dsimp only at h
    have h := zgf zy_88 h rfl rfl (dvf_17_6 (i := (p : Int)) (by omega) (by omega))
    have h := zm zy_88 h 1 (q := (13, darg 0 [(4, 3), (4, 29 + ((k : Int)))], [(4, 29 + ((k : Int))), (4, 18 + 2 * ((p : Int)))], g)) rfl
    dsimp only at h
    have h := zgf zy_88 h rfl rfl (dvf_29_3 (i := (k : Int)) (by omega) (by omega))
    dsimp only at h
    try rw [show (29 + ((k : Int))).toNat = 29 + k from by omega] at h
    try rw [hO.2.2.2.1] at h
    have h := zald zy_88 h rfl rfl (dvr_18 (i := (p : Int)) (j := (t : Int)) (by omega) (by omega) (by omega) (by omega))
    dsimp only at h
    try rw [show (18 + 2 * ((p : Int))).toNat = 18 + 2 * p from by omega] at h
    try rw [show ((t : Int)).toNat = t from by omega] at h
    try rw [hv] at h
    have h := zm zy_88 h 1 (q := (18, darg 0 [(4, 3), (4, 29 + ((k : Int)))], [(4, 29 + ((k : Int))), (0, v)], g)) rfl
    dsimp only at h
    have h := zgf zy_88 h rfl rfl (dvf_29_2 (i := (k : Int)) (by omega) (by omega))
    dsimp only at h
    try rw [show (29 + ((k : Int))).toNat = 29 + k from by omega] at h
    try rw [hO.2.2.1] at h
    have h := zm zy_88 h 1 (q := (cond (crel .ne v ((q : Int))) 28 24, darg 0 [(4, 3), (4, 29 + ((k : Int)))], [], g)) rfl
    dsimp only at h
    rcases zif_ne h with ⟨hc29, h⟩ | ⟨hc29, h⟩
    · have h := zm zy_88 h 1 (q := (29, darg 0 [(4, 3), (4, 29 + ((k : Int)))], [(0, 0)], g)) rfl
      dsimp only at h
      have h := zret zy_88 h rfl rfl
      obtain ⟨e1, e2⟩ := oI h
      have h := hO28
      rw [e1, e2] at h
      clear e1 e2
      clear hO28
      have h := zm zy_291 h 2 (q := (164, dset (dset (dset (dset lf 2 (0, e)) 1 (0, (k : Int))) 0 (4, 0)) 3 (4, 29 + ((k : Int))), [(0, 0), (4, 0)], g)) rfl
      dsimp only at h
      obtain ⟨gz30, rz31, hk, h⟩ := zcallI zy_291 h rfl rfl zy_64 zk_64
      dsimp only at hk h
      have hO32 := h
      have h := hk
      clear hk
      have h := zm zy_64 h 4 (q := (6, darg 0 [(4, 0), (0, 0)], [(0, 0)], cup g 0 0 0)) rfl
      dsimp only at h
      have h := zret zy_64 h rfl rfl
      obtain ⟨e1, e2⟩ := oI h
      have h := hO32
      rw [e1, e2] at h
      clear e1 e2
      clear hO32
      refine Or.inr (Or.inr (Or.inr (Or.inr (Or.inr (Or.inr (Or.inl (⟨Or.inr (⟨hz0, hc29⟩), ?_⟩)))))))
      exact zret zy_291 h rfl rfl
    · have h := zm zy_88 h 2 (q := (29, darg 0 [(4, 3), (4, 29 + ((k : Int)))], [(0, 1)], g)) rfl
      dsimp only at h
      have h := zret zy_88 h rfl rfl
      obtain ⟨e1, e2⟩ := oI h
      have h := hO28
      rw [e1, e2] at h
      clear e1 e2
      clear hO28
      have h := zm zy_291 h 3 (q := (164, dset (dset (dset (dset lf 2 (0, e)) 1 (0, (k : Int))) 0 (4, 0)) 3 (4, 29 + ((k : Int))), [(0, 1), (4, 0)], g)) rfl
      dsimp only at h
      obtain ⟨gz33, rz34, hk, h⟩ := zcallI zy_291 h rfl rfl zy_64 zk_64
      dsimp only at hk h
      have hO35 := h
      have h := hk
      clear hk
      have h := zm zy_64 h 4 (q := (6, darg 0 [(4, 0), (0, 1)], [(0, 1)], cup g 0 0 0)) rfl
      dsimp only at h
      have h := zret zy_64 h rfl rfl
      obtain ⟨e1, e2⟩ := oI h
      have h := hO35
      rw [e1, e2] at h
      clear e1 e2
      clear hO35
      refine Or.inr (Or.inr (Or.inr (Or.inr (Or.inr (Or.inr (Or.inr (Or.inl (⟨Or.inr (⟨hz0, hc29⟩), ?_⟩))))))))
      exact zret zy_291 h rfl rfl
  · have hz0 := hz
    have h := ztabd h zy_291 rfl hz (by decide)
    have h := zm zy_291 h 2 (q := (170, dset (dset (dset (dset lf 2 (0, e)) 1 (0, (k : Int))) 0 (4, 0)) 3 (4, 29 + ((k : Int))), [(0, 1), (4, 0)], g)) rfl
    dsimp only at h
    obtain ⟨gz36, rz37, hk, h⟩ := zcallI zy_291 h rfl rfl zy_29 zk_29
    dsimp only at hk h
    have hO38 := h
    have h := hk
    clear hk
    have h := zm zy_29 h 4 (q := (6, darg 0 [(4, 0), (0, 1)], [(0, (-1))], cup g 0 0 1)) rfl
    dsimp only at h
    have h := zret zy_29 h rfl rfl
    obtain ⟨e1, e2⟩ := oI h
    have h := hO38
    rw [e1, e2] at h
    clear e1 e2
    clear hO38
    refine Or.inr (Or.inr (Or.inr (Or.inr (Or.inr (Or.inr (Or.inr (Or.inr (⟨hz0, ?_⟩))))))))
    exact zret zy_291 h rfl rfl
theorem m_oa0 {sv : Nat → Int32} {L n : Nat} {lf : dlf} {g : cg} {o : cg × Option cv} {a b : Int} (h : zr sv L n 292 0 lf [] g o) (hl0 : lf 0 = (4, 253)) (hl1 : lf 1 = (0, a)) (hl2 : lf 2 = (0, b)) : (((a < 0) ∨ (0 ≤ a ∧ g 254 2 ≤ a) ∨ (0 ≤ a ∧ a < g 254 2 ∧ b < 0) ∨ (0 ≤ a ∧ a < g 254 2 ∧ 0 ≤ b ∧ 7 < b)) ∧ (o = (cup g 253 2 1, some (0, (-1))))) ∨ ((0 ≤ a ∧ a < g 254 2 ∧ 0 ≤ b ∧ b ≤ 7) ∧ (∃ lf', lf' 0 = (4, 253) ∧ lf' 1 = (0, a) ∧ lf' 2 = (0, b) ∧ zr sv L n 292 24 lf' [] g o)) := by
  rw [zov hl0, zov hl1, zov hl2] at h
  have h := zm zy_292 h 2 (q := (2, dset (dset (dset lf 2 (0, b)) 1 (0, a)) 0 (4, 253), [(0, a), (4, 253)], g)) rfl
  dsimp only at h
  obtain ⟨gz1, rz2, hk, h⟩ := zcallI zy_292 h rfl rfl zy_217 zk_217
  dsimp only at hk h
  have hO3 := h
  have h := hk
  clear hk
  have h := zm zy_217 h 2 (q := (cond (crel .lt a 0) 18 4, darg 0 [(4, 253), (0, a)], [], g)) rfl
  dsimp only at h
  rcases zif_lt h with ⟨hc4, h⟩ | ⟨hc4, h⟩
  · have h := zm zy_217 h 1 (q := (19, darg 0 [(4, 253), (0, a)], [(0, 0)], g)) rfl
    dsimp only at h
    have h := zret zy_217 h rfl rfl
    obtain ⟨e1, e2⟩ := oI h
    have h := hO3
    rw [e1, e2] at h
    clear e1 e2
    clear hO3
    have h := zm zy_292 h 3 (q := (20, dset (dset (dset lf 2 (0, b)) 1 (0, a)) 0 (4, 253), [(0, 1), (4, 253)], g)) rfl
    dsimp only at h
    obtain ⟨gz5, rz6, hk, h⟩ := zcallI zy_292 h rfl rfl zy_170 zk_170
    dsimp only at hk h
    have hO7 := h
    have h := hk
    clear hk
    have h := zm zy_170 h 4 (q := (6, darg 0 [(4, 253), (0, 1)], [(0, (-1))], cup g 253 2 1)) rfl
    dsimp only at h
    have h := zret zy_170 h rfl rfl
    obtain ⟨e1, e2⟩ := oI h
    have h := hO7
    rw [e1, e2] at h
    clear e1 e2
    clear hO7
    refine Or.inl (⟨Or.inl (hc4), ?_⟩)
    exact zret zy_292 h rfl rfl
  · have h := zm zy_217 h 6 (q := (cond (crel .ge a (g 254 2)) 18 14, darg 0 [(4, 253), (0, a)], [], g)) rfl
    dsimp only at h
    rcases zif_ge h with ⟨hc8, h⟩ | ⟨hc8, h⟩
    · have h := zm zy_217 h 1 (q := (19, darg 0 [(4, 253), (0, a)], [(0, 0)], g)) rfl
      dsimp only at h
      have h := zret zy_217 h rfl rfl
      obtain ⟨e1, e2⟩ := oI h
      have h := hO3
      rw [e1, e2] at h
      clear e1 e2
      clear hO3
      have h := zm zy_292 h 3 (q := (20, dset (dset (dset lf 2 (0, b)) 1 (0, a)) 0 (4, 253), [(0, 1), (4, 253)], g)) rfl
      dsimp only at h
      obtain ⟨gz9, rz10, hk, h⟩ := zcallI zy_292 h rfl rfl zy_170 zk_170
      dsimp only at hk h
      have hO11 := h
      have h := hk
      clear hk
      have h := zm zy_170 h 4 (q := (6, darg 0 [(4, 253), (0, 1)], [(0, (-1))], cup g 253 2 1)) rfl
      dsimp only at h
      have h := zret zy_170 h rfl rfl
      obtain ⟨e1, e2⟩ := oI h
      have h := hO11
      rw [e1, e2] at h
      clear e1 e2
      clear hO11
      refine Or.inl (⟨Or.inr (Or.inl (⟨hc4, hc8⟩)), ?_⟩)
      exact zret zy_292 h rfl rfl
    · have h := zm zy_217 h 2 (q := (19, darg 0 [(4, 253), (0, a)], [(0, 1)], g)) rfl
      dsimp only at h
      have h := zret zy_217 h rfl rfl
      obtain ⟨e1, e2⟩ := oI h
      have h := hO3
      rw [e1, e2] at h
      clear e1 e2
      clear hO3
      have h := zm zy_292 h 3 (q := (cond (crel .lt b 0) 18 12, dset (dset (dset lf 2 (0, b)) 1 (0, a)) 0 (4, 253), [], g)) rfl
      dsimp only at h
      rcases zif_lt h with ⟨hc12, h⟩ | ⟨hc12, h⟩
      · have h := zm zy_292 h 2 (q := (20, dset (dset (dset lf 2 (0, b)) 1 (0, a)) 0 (4, 253), [(0, 1), (4, 253)], g)) rfl
        dsimp only at h
        obtain ⟨gz13, rz14, hk, h⟩ := zcallI zy_292 h rfl rfl zy_170 zk_170
        dsimp only at hk h
        have hO15 := h
        have h := hk
        clear hk
        have h := zm zy_170 h 4 (q := (6, darg 0 [(4, 253), (0, 1)], [(0, (-1))], cup g 253 2 1)) rfl
        dsimp only at h
        have h := zret zy_170 h rfl rfl
        obtain ⟨e1, e2⟩ := oI h
        have h := hO15
        rw [e1, e2] at h
        clear e1 e2
        clear hO15
        refine Or.inl (⟨Or.inr (Or.inr (Or.inl (⟨hc4, hc8, hc12⟩))), ?_⟩)
        exact zret zy_292 h rfl rfl
      · have h := zm zy_292 h 3 (q := (cond (crel .le b 7) 24 18, dset (dset (dset lf 2 (0, b)) 1 (0, a)) 0 (4, 253), [], g)) rfl
        dsimp only at h
        rcases zif_le h with ⟨hc16, h⟩ | ⟨hc16, h⟩
        · refine Or.inr (⟨⟨hc4, hc8, hc12, hc16⟩, ?_⟩)
          exact ⟨_, rfl, rfl, rfl, h⟩
        · have h := zm zy_292 h 2 (q := (20, dset (dset (dset lf 2 (0, b)) 1 (0, a)) 0 (4, 253), [(0, 1), (4, 253)], g)) rfl
          dsimp only at h
          obtain ⟨gz18, rz19, hk, h⟩ := zcallI zy_292 h rfl rfl zy_170 zk_170
          dsimp only at hk h
          have hO20 := h
          have h := hk
          clear hk
          have h := zm zy_170 h 4 (q := (6, darg 0 [(4, 253), (0, 1)], [(0, (-1))], cup g 253 2 1)) rfl
          dsimp only at h
          have h := zret zy_170 h rfl rfl
          obtain ⟨e1, e2⟩ := oI h
          have h := hO20
          rw [e1, e2] at h
          clear e1 e2
          clear hO20
          refine Or.inl (⟨Or.inr (Or.inr (Or.inr (⟨hc4, hc8, hc12, hc16⟩))), ?_⟩)
          exact zret zy_292 h rfl rfl
theorem t_lia {sv : Nat → Int32} {L n : Nat} {lf : dlf} {g : cg} {o : cg × Option cv} {a : Int} (h : zr sv L n 355 0 lf [] g o) (hl0 : lf 0 = (4, 0)) (hl1 : lf 1 = (0, a)) : (((a < 0) ∨ (0 ≤ a ∧ g 3 3 ≤ a)) ∧ (o = (cup g 0 0 1, some (0, (-1))))) ∨ ((0 ≤ a ∧ a < g 3 3) ∧ (∃ g_1 r_1, zr sv L n 141 0 (darg 0 [(4, 3), (0, a)]) [] g (g_1, some (0, r_1)) ∧ (o = (cup g_1 0 0 0, some (0, r_1))))) := by
  rw [zov hl0, zov hl1] at h
  have h := zm zy_355 h 3 (q := (5, dset (dset lf 1 (0, a)) 0 (4, 0), [(0, a), (4, 3)], g)) rfl
  dsimp only at h
  obtain ⟨gz1, rz2, hk, h⟩ := zcallI zy_355 h rfl rfl zy_81 zk_81
  dsimp only at hk h
  have hO3 := h
  have h := hk
  clear hk
  have h := zm zy_81 h 2 (q := (cond (crel .lt a 0) 16 4, darg 0 [(4, 3), (0, a)], [], g)) rfl
  dsimp only at h
  rcases zif_lt h with ⟨hc4, h⟩ | ⟨hc4, h⟩
  · have h := zm zy_81 h 1 (q := (17, darg 0 [(4, 3), (0, a)], [(0, 0)], g)) rfl
    dsimp only at h
    have h := zret zy_81 h rfl rfl
    obtain ⟨e1, e2⟩ := oI h
    have h := hO3
    rw [e1, e2] at h
    clear e1 e2
    clear hO3
    have h := zm zy_355 h 3 (q := (28, dset (dset lf 1 (0, a)) 0 (4, 0), [(0, 1), (4, 0)], g)) rfl
    dsimp only at h
    obtain ⟨gz5, rz6, hk, h⟩ := zcallI zy_355 h rfl rfl zy_29 zk_29
    dsimp only at hk h
    have hO7 := h
    have h := hk
    clear hk
    have h := zm zy_29 h 4 (q := (6, darg 0 [(4, 0), (0, 1)], [(0, (-1))], cup g 0 0 1)) rfl
    dsimp only at h
    have h := zret zy_29 h rfl rfl
    obtain ⟨e1, e2⟩ := oI h
    have h := hO7
    rw [e1, e2] at h
    clear e1 e2
    clear hO7
    refine Or.inl (⟨Or.inl (hc4), ?_⟩)
    exact zret zy_355 h rfl rfl
  · have h := zm zy_81 h 4 (q := (cond (crel .ge a (g 3 3)) 16 12, darg 0 [(4, 3), (0, a)], [], g)) rfl
    dsimp only at h
    rcases zif_ge h with ⟨hc8, h⟩ | ⟨hc8, h⟩
    · have h := zm zy_81 h 1 (q := (17, darg 0 [(4, 3), (0, a)], [(0, 0)], g)) rfl
      dsimp only at h
      have h := zret zy_81 h rfl rfl
      obtain ⟨e1, e2⟩ := oI h
      have h := hO3
      rw [e1, e2] at h
      clear e1 e2
      clear hO3
      have h := zm zy_355 h 3 (q := (28, dset (dset lf 1 (0, a)) 0 (4, 0), [(0, 1), (4, 0)], g)) rfl
      dsimp only at h
      obtain ⟨gz9, rz10, hk, h⟩ := zcallI zy_355 h rfl rfl zy_29 zk_29
      dsimp only at hk h
      have hO11 := h
      have h := hk
      clear hk
      have h := zm zy_29 h 4 (q := (6, darg 0 [(4, 0), (0, 1)], [(0, (-1))], cup g 0 0 1)) rfl
      dsimp only at h
      have h := zret zy_29 h rfl rfl
      obtain ⟨e1, e2⟩ := oI h
      have h := hO11
      rw [e1, e2] at h
      clear e1 e2
      clear hO11
      refine Or.inl (⟨Or.inr (⟨hc4, hc8⟩), ?_⟩)
      exact zret zy_355 h rfl rfl
    · have h := zm zy_81 h 2 (q := (17, darg 0 [(4, 3), (0, a)], [(0, 1)], g)) rfl
      dsimp only at h
      have h := zret zy_81 h rfl rfl
      obtain ⟨e1, e2⟩ := oI h
      have h := hO3
      rw [e1, e2] at h
      clear e1 e2
      clear hO3
      have h := zm zy_355 h 5 (q := (17, dset (dset lf 1 (0, a)) 0 (4, 0), [(0, a), (4, 3), (4, 0)], g)) rfl
      dsimp only at h
      obtain ⟨g_1, r_1, hk, h⟩ := zcallI zy_355 h rfl rfl zy_141 zk_141
      dsimp only at hk h
      refine Or.inr (⟨⟨hc4, hc8⟩, ?_⟩)
      refine ⟨g_1, r_1, hk, ?_⟩
      obtain ⟨gz12, rz13, hk, h⟩ := zcallI zy_355 h rfl rfl zy_64 zk_64
      dsimp only at hk h
      have hO14 := h
      have h := hk
      clear hk
      have h := zm zy_64 h 4 (q := (6, darg 0 [(4, 0), (0, r_1)], [(0, r_1)], cup g_1 0 0 0)) rfl
      dsimp only at h
      have h := zret zy_64 h rfl rfl
      obtain ⟨e1, e2⟩ := oI h
      have h := hO14
      rw [e1, e2] at h
      clear e1 e2
      clear hO14
      have h := zm zy_355 h 1 (q := (31, dset (dset lf 1 (0, a)) 0 (4, 0), [(0, r_1)], cup g_1 0 0 0)) rfl
      dsimp only at h
      exact zret zy_355 h rfl rfl
theorem t_lab0 {sv : Nat → Int32} {L n : Nat} {lf : dlf} {g : cg} {o : cg × Option cv} {P : Nat} (rP : P ≤ 5) (h : zr sv L n 141 0 lf [] g o) (hl0 : lf 0 = (4, 3)) (hl1 : lf 1 = (0, (P : Int))) : ∃ lf', lf' 0 = (4, 3) ∧ lf' 1 = (0, (P : Int)) ∧ lf' 2 = (0, 0) ∧ lf' 3 = (0, 0) ∧ zr sv L n 141 4 lf' [] g o := by
  rw [zov hl0, zov hl1] at h
  have h := zm zy_141 h 4 (q := (4, dset (dset (dset (dset lf 1 (0, (P : Int))) 0 (4, 3)) 2 (0, 0)) 3 (0, 0), [], g)) rfl
  dsimp only at h
  exact ⟨_, rfl, rfl, rfl, rfl, h⟩
theorem t_lab_s {sv : Nat → Int32} {L n : Nat} {lf : dlf} {g : cg} {o : cg × Option cv} {P w p q t k N : Nat} {f s b u v : Int} (rP : P ≤ 5) (rw : w ≤ 5) (rp : p ≤ 5) (rq : q ≤ 4) (rt : t ≤ 7) (rk : k ≤ 15) (rN : N ≤ 16) (hN : g 3 9 = (N : Int)) (hv : g (18 + 2 * p) t = v) (hO : OHC g k w p q t f s b) (hlt : k < N) (h : zr sv L (n + 1) 141 4 lf [] g o) (hl0 : lf 0 = (4, 3)) (hl1 : lf 1 = (0, (P : Int))) (hl2 : lf 2 = (0, u)) (hl3 : lf 3 = (0, (k : Int))) : ((((p : Int) ≠ (P : Int)) ∨ ((p : Int) = (P : Int) ∧ s ≠ 0) ∨ ((p : Int) = (P : Int) ∧ s = 0 ∧ v = (q : Int))) ∧ (∃ lf', lf' 0 = (4, 3) ∧ lf' 1 = (0, (P : Int)) ∧ lf' 2 = (0, u) ∧ lf' 3 = (0, 1 + (k : Int)) ∧ zr sv L n 141 4 lf' [] g o)) ∨ (((p : Int) = (P : Int) ∧ s = 0 ∧ v ≠ (q : Int)) ∧ (∃ lf', lf' 0 = (4, 3) ∧ lf' 1 = (0, (P : Int)) ∧ lf' 2 = (0, bor u (bsl 1 ((w : Int)))) ∧ lf' 3 = (0, 1 + (k : Int)) ∧ zr sv L n 141 4 lf' [] g o)) := by
  rw [zov hl0, zov hl1, zov hl2, zov hl3] at h
  have h := zm1 zy_141 h 3 (q := (cond (crel .ge ((k : Int)) (g 3 9)) 58 12, dset (dset (dset (dset lf 3 (0, (k : Int))) 2 (0, u)) 1 (0, (P : Int))) 0 (4, 3), [], g)) rfl
  dsimp only at h
  try rw [hN] at h
  rcases zif_ge h with ⟨hc1, h⟩ | ⟨hc1, h⟩
  · exact absurd hc1 (by omega)
  · have h := zm zy_141 h 3 (q := (17, dset (dset (dset (dset lf 3 (0, (k : Int))) 2 (0, u)) 1 (0, (P : Int))) 0 (4, 3), [(0, (k : Int)), (4, 7)], g)) rfl
    dsimp only at h
    have h := zald zy_141 h rfl rfl (dvp_7 (i := (k : Int)) (by omega) (by omega))
    dsimp only at h
    have h := zgf zy_141 h rfl rfl (dvf_29_1 (i := (k : Int)) (by omega) (by omega))
    dsimp only at h
    try rw [show (29 + ((k : Int))).toNat = 29 + k from by omega] at h
    try rw [hO.2.1] at h
    have h := zm zy_141 h 2 (q := (cond (crel .ne ((p : Int)) ((P : Int))) 52 25, dset (dset (dset (dset lf 3 (0, (k : Int))) 2 (0, u)) 1 (0, (P : Int))) 0 (4, 3), [], g)) rfl
    dsimp only at h
    rcases zif_ne h with ⟨hc2, h⟩ | ⟨hc2, h⟩
    · have h := zm zy_141 h 2 (q := (4, dset (dset (dset (dset (dset lf 3 (0, (k : Int))) 2 (0, u)) 1 (0, (P : Int))) 0 (4, 3)) 3 (0, w32 (((k : Int)) + 1)), [], g)) rfl
      dsimp only at h
      try rw [w32_eq (z := ((k : Int)) + 1) (v := 1 + (k : Int)) (by omega) (by omega) (by omega)] at h
      refine Or.inl (⟨Or.inl (hc2), ?_⟩)
      exact ⟨_, rfl, rfl, rfl, rfl, h⟩
    · have h := zm zy_141 h 4 (q := (31, dset (dset (dset (dset lf 3 (0, (k : Int))) 2 (0, u)) 1 (0, (P : Int))) 0 (4, 3), [(0, (k : Int)), (4, 7), (4, 3)], g)) rfl
      dsimp only at h
      have h := zald zy_141 h rfl rfl (dvp_7 (i := (k : Int)) (by omega) (by omega))
      dsimp only at h
      obtain ⟨gz4, rz5, hk, h⟩ := zcallI zy_141 h rfl rfl zy_79 zk_79
      dsimp only at hk h
      have hO6 := h
      have h := hk
      clear hk
      have h := zm zy_79 h 1 (q := (1, darg 0 [(4, 3), (4, 29 + ((k : Int)))], [(4, 29 + ((k : Int)))], g)) rfl
      dsimp only at h
      have h := zgf zy_79 h rfl rfl (dvf_29_5 (i := (k : Int)) (by omega) (by omega))
      dsimp only at h
      try rw [show (29 + ((k : Int))).toNat = 29 + k from by omega] at h
      try rw [hO.2.2.2.2.2.1] at h
      have h := zm zy_79 h 1 (q := (cond (crel .ne s 0) 35 7, darg 0 [(4, 3), (4, 29 + ((k : Int)))], [], g)) rfl
      dsimp only at h
      rcases zif_ne h with ⟨hc7, h⟩ | ⟨hc7, h⟩
      · have h := zm zy_79 h 1 (q := (36, darg 0 [(4, 3), (4, 29 + ((k : Int)))], [(0, 0)], g)) rfl
        dsimp only at h
        have h := zret zy_79 h rfl rfl
        obtain ⟨e1, e2⟩ := oI h
        have h := hO6
        rw [e1, e2] at h
        clear e1 e2
        clear hO6
        have h := zm zy_141 h 3 (q := (4, dset (dset (dset (dset (dset lf 3 (0, (k : Int))) 2 (0, u)) 1 (0, (P : Int))) 0 (4, 3)) 3 (0, w32 (((k : Int)) + 1)), [], g)) rfl
        dsimp only at h
        try rw [w32_eq (z := ((k : Int)) + 1) (v := 1 + (k : Int)) (by omega) (by omega) (by omega)] at h
        refine Or.inl (⟨Or.inr (Or.inl (⟨hc2, hc7⟩)), ?_⟩)
        exact ⟨_, rfl, rfl, rfl, rfl, h⟩
      · have h := zm zy_79 h 3 (q := (12, darg 0 [(4, 3), (4, 29 + ((k : Int)))], [(4, 29 + ((k : Int))), (4, 6)], g)) rfl
        dsimp only at h
        have h := zgf zy_79 h rfl rfl (dvf_29_1 (i := (k : Int)) (by omega) (by omega))
        dsimp only at h
        try rw [show (29 + ((k : Int))).toNat = 29 + k from by omega] at h
        try rw [hO.2.1] at h
        have h := zald zy_79 h rfl rfl (dvp_6 (i := (p : Int)) (by omega) (by omega))
        dsimp only at h
        have h := zgf zy_79 h rfl rfl (dvf_17_6 (i := (p : Int)) (by omega) (by omega))
        have h := zm zy_79 h 1 (q := (20, darg 0 [(4, 3), (4, 29 + ((k : Int)))], [(4, 29 + ((k : Int))), (4, 18 + 2 * ((p : Int)))], g)) rfl
        dsimp only at h
        have h := zgf zy_79 h rfl rfl (dvf_29_3 (i := (k : Int)) (by omega) (by omega))
        dsimp only at h
        try rw [show (29 + ((k : Int))).toNat = 29 + k from by omega] at h
        try rw [hO.2.2.2.1] at h
        have h := zald zy_79 h rfl rfl (dvr_18 (i := (p : Int)) (j := (t : Int)) (by omega) (by omega) (by omega) (by omega))
        dsimp only at h
        try rw [show (18 + 2 * ((p : Int))).toNat = 18 + 2 * p from by omega] at h
        try rw [show ((t : Int)).toNat = t from by omega] at h
        try rw [hv] at h
        have h := zm zy_79 h 1 (q := (25, darg 0 [(4, 3), (4, 29 + ((k : Int)))], [(4, 29 + ((k : Int))), (0, v)], g)) rfl
        dsimp only at h
        have h := zgf zy_79 h rfl rfl (dvf_29_2 (i := (k : Int)) (by omega) (by omega))
        dsimp only at h
        try rw [show (29 + ((k : Int))).toNat = 29 + k from by omega] at h
        try rw [hO.2.2.1] at h
        have h := zm zy_79 h 1 (q := (cond (crel .eq v ((q : Int))) 35 31, darg 0 [(4, 3), (4, 29 + ((k : Int)))], [], g)) rfl
        dsimp only at h
        rcases zif_eq h with ⟨hc9, h⟩ | ⟨hc9, h⟩
        · have h := zm zy_79 h 1 (q := (36, darg 0 [(4, 3), (4, 29 + ((k : Int)))], [(0, 0)], g)) rfl
          dsimp only at h
          have h := zret zy_79 h rfl rfl
          obtain ⟨e1, e2⟩ := oI h
          have h := hO6
          rw [e1, e2] at h
          clear e1 e2
          clear hO6
          have h := zm zy_141 h 3 (q := (4, dset (dset (dset (dset (dset lf 3 (0, (k : Int))) 2 (0, u)) 1 (0, (P : Int))) 0 (4, 3)) 3 (0, w32 (((k : Int)) + 1)), [], g)) rfl
          dsimp only at h
          try rw [w32_eq (z := ((k : Int)) + 1) (v := 1 + (k : Int)) (by omega) (by omega) (by omega)] at h
          refine Or.inl (⟨Or.inr (Or.inr (⟨hc2, hc7, hc9⟩)), ?_⟩)
          exact ⟨_, rfl, rfl, rfl, rfl, h⟩
        · have h := zm zy_79 h 2 (q := (36, darg 0 [(4, 3), (4, 29 + ((k : Int)))], [(0, 1)], g)) rfl
          dsimp only at h
          have h := zret zy_79 h rfl rfl
          obtain ⟨e1, e2⟩ := oI h
          have h := hO6
          rw [e1, e2] at h
          clear e1 e2
          clear hO6
          have h := zm zy_141 h 6 (q := (45, dset (dset (dset (dset lf 3 (0, (k : Int))) 2 (0, u)) 1 (0, (P : Int))) 0 (4, 3), [(0, (k : Int)), (4, 7), (0, 1), (0, u)], g)) rfl
          dsimp only at h
          have h := zald zy_141 h rfl rfl (dvp_7 (i := (k : Int)) (by omega) (by omega))
          dsimp only at h
          have h := zgf zy_141 h rfl rfl (dvf_29_0 (i := (k : Int)) (by omega) (by omega))
          dsimp only at h
          try rw [show (29 + ((k : Int))).toNat = 29 + k from by omega] at h
          try rw [hO.1] at h
          have h := zm zy_141 h 5 (q := (4, dset (dset (dset (dset (dset (dset lf 3 (0, (k : Int))) 2 (0, u)) 1 (0, (P : Int))) 0 (4, 3)) 2 (0, bor u (bsl 1 ((w : Int))))) 3 (0, w32 (((k : Int)) + 1)), [], g)) rfl
          dsimp only at h
          try rw [w32_eq (z := ((k : Int)) + 1) (v := 1 + (k : Int)) (by omega) (by omega) (by omega)] at h
          refine Or.inr (⟨⟨hc2, hc7, hc9⟩, ?_⟩)
          exact ⟨_, rfl, rfl, rfl, rfl, h⟩
theorem t_lab_e {sv : Nat → Int32} {L n : Nat} {lf : dlf} {g : cg} {o : cg × Option cv} {P k N : Nat} {u : Int} (rP : P ≤ 5) (rk : k ≤ 16) (rN : N ≤ 16) (hN : g 3 9 = (N : Int)) (hge : N ≤ k) (h : zr sv L (n + 1) 141 4 lf [] g o) (hl0 : lf 0 = (4, 3)) (hl1 : lf 1 = (0, (P : Int))) (hl2 : lf 2 = (0, u)) (hl3 : lf 3 = (0, (k : Int))) : o = (g, some (0, u)) := by
  rw [zov hl0, zov hl1, zov hl2, zov hl3] at h
  have h := zm1 zy_141 h 3 (q := (cond (crel .ge ((k : Int)) (g 3 9)) 58 12, dset (dset (dset (dset lf 3 (0, (k : Int))) 2 (0, u)) 1 (0, (P : Int))) 0 (4, 3), [], g)) rfl
  dsimp only at h
  try rw [hN] at h
  rcases zif_ge h with ⟨hc1, h⟩ | ⟨hc1, h⟩
  · have h := zm zy_141 h 1 (q := (59, dset (dset (dset (dset lf 3 (0, (k : Int))) 2 (0, u)) 1 (0, (P : Int))) 0 (4, 3), [(0, u)], g)) rfl
    dsimp only at h
    exact zret zy_141 h rfl rfl
  · exact absurd hc1 (by omega)
theorem m_lia0 {sv : Nat → Int32} {L n : Nat} {lf : dlf} {g : cg} {o : cg × Option cv} {a : Int} (h : zr sv L n 356 0 lf [] g o) (hl0 : lf 0 = (4, 253)) (hl1 : lf 1 = (0, a)) : (((a < 0) ∨ (0 ≤ a ∧ g 254 1 ≤ a)) ∧ (o = (cup g 253 2 1, some (0, (-1))))) ∨ ((0 ≤ a ∧ a < g 254 1) ∧ (∃ lf', lf' 0 = (4, 253) ∧ lf' 1 = (0, a) ∧ zr sv L n 356 14 lf' [] g o)) := by
  rw [zov hl0, zov hl1] at h
  have h := zm zy_356 h 2 (q := (2, dset (dset lf 1 (0, a)) 0 (4, 253), [(0, a), (4, 253)], g)) rfl
  dsimp only at h
  obtain ⟨gz1, rz2, hk, h⟩ := zcallI zy_356 h rfl rfl zy_208 zk_208
  dsimp only at hk h
  have hO3 := h
  have h := hk
  clear hk
  have h := zm zy_208 h 2 (q := (cond (crel .lt a 0) 18 4, darg 0 [(4, 253), (0, a)], [], g)) rfl
  dsimp only at h
  rcases zif_lt h with ⟨hc4, h⟩ | ⟨hc4, h⟩
  · have h := zm zy_208 h 1 (q := (19, darg 0 [(4, 253), (0, a)], [(0, 0)], g)) rfl
    dsimp only at h
    have h := zret zy_208 h rfl rfl
    obtain ⟨e1, e2⟩ := oI h
    have h := hO3
    rw [e1, e2] at h
    clear e1 e2
    clear hO3
    have h := zm zy_356 h 3 (q := (10, dset (dset lf 1 (0, a)) 0 (4, 253), [(0, 1), (4, 253)], g)) rfl
    dsimp only at h
    obtain ⟨gz5, rz6, hk, h⟩ := zcallI zy_356 h rfl rfl zy_170 zk_170
    dsimp only at hk h
    have hO7 := h
    have h := hk
    clear hk
    have h := zm zy_170 h 4 (q := (6, darg 0 [(4, 253), (0, 1)], [(0, (-1))], cup g 253 2 1)) rfl
    dsimp only at h
    have h := zret zy_170 h rfl rfl
    obtain ⟨e1, e2⟩ := oI h
    have h := hO7
    rw [e1, e2] at h
    clear e1 e2
    clear hO7
    refine Or.inl (⟨Or.inl (hc4), ?_⟩)
    exact zret zy_356 h rfl rfl
  · have h := zm zy_208 h 6 (q := (cond (crel .ge a (g 254 1)) 18 14, darg 0 [(4, 253), (0, a)], [], g)) rfl
    dsimp only at h
    rcases zif_ge h with ⟨hc8, h⟩ | ⟨hc8, h⟩
    · have h := zm zy_208 h 1 (q := (19, darg 0 [(4, 253), (0, a)], [(0, 0)], g)) rfl
      dsimp only at h
      have h := zret zy_208 h rfl rfl
      obtain ⟨e1, e2⟩ := oI h
      have h := hO3
      rw [e1, e2] at h
      clear e1 e2
      clear hO3
      have h := zm zy_356 h 3 (q := (10, dset (dset lf 1 (0, a)) 0 (4, 253), [(0, 1), (4, 253)], g)) rfl
      dsimp only at h
      obtain ⟨gz9, rz10, hk, h⟩ := zcallI zy_356 h rfl rfl zy_170 zk_170
      dsimp only at hk h
      have hO11 := h
      have h := hk
      clear hk
      have h := zm zy_170 h 4 (q := (6, darg 0 [(4, 253), (0, 1)], [(0, (-1))], cup g 253 2 1)) rfl
      dsimp only at h
      have h := zret zy_170 h rfl rfl
      obtain ⟨e1, e2⟩ := oI h
      have h := hO11
      rw [e1, e2] at h
      clear e1 e2
      clear hO11
      refine Or.inl (⟨Or.inr (⟨hc4, hc8⟩), ?_⟩)
      exact zret zy_356 h rfl rfl
    · have h := zm zy_208 h 2 (q := (19, darg 0 [(4, 253), (0, a)], [(0, 1)], g)) rfl
      dsimp only at h
      have h := zret zy_208 h rfl rfl
      obtain ⟨e1, e2⟩ := oI h
      have h := hO3
      rw [e1, e2] at h
      clear e1 e2
      clear hO3
      have h := zm zy_356 h 1 (q := (14, dset (dset lf 1 (0, a)) 0 (4, 253), [], g)) rfl
      dsimp only at h
      refine Or.inr (⟨⟨hc4, hc8⟩, ?_⟩)
      exact ⟨_, rfl, rfl, h⟩
theorem m_lia14 {sv : Nat → Int32} {L n : Nat} {lf : dlf} {g : cg} {o : cg × Option cv} {P : Nat} (rP : P ≤ 5) (h : zr sv L n 356 14 lf [] g o) (hl0 : lf 0 = (4, 253)) (hl1 : lf 1 = (0, (P : Int))) : ∃ lf', lf' 0 = (4, 253) ∧ lf' 1 = (0, (P : Int)) ∧ lf' 2 = (0, 0) ∧ lf' 3 = (0, 0) ∧ zr sv L n 356 18 lf' [] g o := by
  rw [zov hl0, zov hl1] at h
  have h := zm zy_356 h 4 (q := (18, dset (dset (dset (dset lf 1 (0, (P : Int))) 0 (4, 253)) 2 (0, 0)) 3 (0, 0), [], g)) rfl
  dsimp only at h
  exact ⟨_, rfl, rfl, rfl, rfl, h⟩
theorem m_lia_s {sv : Nat → Int32} {L n : Nat} {lf : dlf} {g : cg} {o : cg × Option cv} {P w p q t k N : Nat} {f s b u v : Int} (rP : P ≤ 5) (rw : w ≤ 5) (rp : p ≤ 5) (rq : q ≤ 4) (rt : t ≤ 7) (rk : k ≤ 15) (rN : N ≤ 16) (hN : g 254 2 = (N : Int)) (hO : OHM g k w p q t f s b) (hv : g 254 (51 + 8 * p + t) = v) (hlt : k < N) (h : zr sv L (n + 1) 356 18 lf [] g o) (hl0 : lf 0 = (4, 253)) (hl1 : lf 1 = (0, (P : Int))) (hl2 : lf 2 = (0, u)) (hl3 : lf 3 = (0, (k : Int))) : (((s ≠ 0) ∨ (s = 0 ∧ v ≠ (q : Int) ∧ (p : Int) ≠ (P : Int)) ∨ (s = 0 ∧ v = (q : Int))) ∧ (∃ lf', lf' 0 = (4, 253) ∧ lf' 1 = (0, (P : Int)) ∧ lf' 2 = (0, bor u 0) ∧ lf' 3 = (0, 1 + (k : Int)) ∧ zr sv L n 356 18 lf' [] g o)) ∨ ((s = 0 ∧ v ≠ (q : Int) ∧ (p : Int) = (P : Int)) ∧ (∃ lf', lf' 0 = (4, 253) ∧ lf' 1 = (0, (P : Int)) ∧ lf' 2 = (0, bor u (bsl 1 ((w : Int)))) ∧ lf' 3 = (0, 1 + (k : Int)) ∧ zr sv L n 356 18 lf' [] g o)) := by
  rw [zov hl0, zov hl1, zov hl2, zov hl3] at h
  have h := zm1 zy_356 h 5 (q := (cond (crel .ge ((k : Int)) (g 254 2)) 65 28, dset (dset (dset (dset lf 3 (0, (k : Int))) 2 (0, u)) 1 (0, (P : Int))) 0 (4, 253), [], g)) rfl
  dsimp only at h
  try rw [hN] at h
  rcases zif_ge h with ⟨hc1, h⟩ | ⟨hc1, h⟩
  · exact absurd hc1 (by omega)
  · have h := zm zy_356 h 3 (q := (31, dset (dset (dset (dset lf 3 (0, (k : Int))) 2 (0, u)) 1 (0, (P : Int))) 0 (4, 253), [(0, (k : Int)), (4, 253), (0, u)], g)) rfl
    dsimp only at h
    obtain ⟨gz2, rz3, hk, h⟩ := zcallI zy_356 h rfl rfl zy_200 zk_200
    dsimp only at hk h
    have hO4 := h
    have h := hk
    clear hk
    have h := zm zy_200 h 2 (q := (2, darg 0 [(4, 253), (0, (k : Int))], [(0, (k : Int)), (4, 253)], g)) rfl
    dsimp only at h
    obtain ⟨gz5, rz6, hk, h⟩ := zcallI zy_200 h rfl rfl zy_201 zk_201
    dsimp only at hk h
    have hO7 := h
    have h := hk
    clear hk
    have h := zm zy_201 h 3 (q := (5, darg 0 [(4, 253), (0, (k : Int))], [(0, (k : Int)), (4, 254)], g)) rfl
    dsimp only at h
    obtain ⟨gz8, rz9, hk, h⟩ := zcallI zy_201 h rfl rfl zy_199 zk_199
    dsimp only at hk h
    have hO10 := h
    have h := hk
    clear hk
    have h := zm zy_199 h 5 (q := (7, darg 0 [(0, (k : Int))], [(0, w32 (99 + (w32 (8 * ((k : Int))))))], g)) rfl
    dsimp only at h
    try rw [w32_eq (z := 8 * ((k : Int))) (v := 8 * (k : Int)) (by omega) (by omega) (by omega)] at h
    try rw [w32_eq (z := 99 + (8 * (k : Int))) (v := 99 + 8 * (k : Int)) (by omega) (by omega) (by omega)] at h
    have h := zret zy_199 h rfl rfl
    obtain ⟨e1, e2⟩ := oI h
    have h := hO10
    rw [e1, e2] at h
    clear e1 e2
    clear hO10
    have h := zm zy_201 h 2 (q := (10, darg 0 [(4, 253), (0, (k : Int))], [(0, w32 ((99 + 8 * (k : Int)) + 5)), (4, 254)], g)) rfl
    dsimp only at h
    try rw [w32_eq (z := (99 + 8 * (k : Int)) + 5) (v := 104 + 8 * (k : Int)) (by omega) (by omega) (by omega)] at h
    have h := zald zy_201 h rfl rfl (dvb_254 (i := 104 + 8 * (k : Int)) (by omega) (by omega))
    dsimp only at h
    try rw [show (104 + 8 * (k : Int)).toNat = 104 + 8 * k from by omega] at h
    try rw [hO.2.2.2.2.2.1] at h
    have h := zm zy_201 h 1 (q := (cond (crel .ne s 0) 18 14, darg 0 [(4, 253), (0, (k : Int))], [], g)) rfl
    dsimp only at h
    rcases zif_ne h with ⟨hc11, h⟩ | ⟨hc11, h⟩
    · have h := zm zy_201 h 1 (q := (19, darg 0 [(4, 253), (0, (k : Int))], [(0, 0)], g)) rfl
      dsimp only at h
      have h := zret zy_201 h rfl rfl
      obtain ⟨e1, e2⟩ := oI h
      have h := hO7
      rw [e1, e2] at h
      clear e1 e2
      clear hO7
      have h := zm zy_200 h 2 (q := (21, darg 0 [(4, 253), (0, (k : Int))], [(0, 0)], g)) rfl
      dsimp only at h
      have h := zret zy_200 h rfl rfl
      obtain ⟨e1, e2⟩ := oI h
      have h := hO4
      rw [e1, e2] at h
      clear e1 e2
      clear hO4
      have h := zm zy_356 h 6 (q := (18, dset (dset (dset (dset (dset (dset lf 3 (0, (k : Int))) 2 (0, u)) 1 (0, (P : Int))) 0 (4, 253)) 2 (0, bor u 0)) 3 (0, w32 (((k : Int)) + 1)), [], g)) rfl
      dsimp only at h
      try rw [w32_eq (z := ((k : Int)) + 1) (v := 1 + (k : Int)) (by omega) (by omega) (by omega)] at h
      refine Or.inl (⟨Or.inl (hc11), ?_⟩)
      exact ⟨_, rfl, rfl, rfl, rfl, h⟩
    · have h := zm zy_201 h 2 (q := (19, darg 0 [(4, 253), (0, (k : Int))], [(0, 1)], g)) rfl
      dsimp only at h
      have h := zret zy_201 h rfl rfl
      obtain ⟨e1, e2⟩ := oI h
      have h := hO7
      rw [e1, e2] at h
      clear e1 e2
      clear hO7
      have h := zm zy_200 h 3 (q := (10, darg 0 [(4, 253), (0, (k : Int))], [(0, (k : Int)), (4, 253)], g)) rfl
      dsimp only at h
      obtain ⟨gz13, rz14, hk, h⟩ := zcallI zy_200 h rfl rfl zy_202 zk_202
      dsimp only at hk h
      have hO15 := h
      have h := hk
      clear hk
      have h := zm zy_202 h 3 (q := (3, darg 0 [(4, 253), (0, (k : Int))], [(0, (k : Int)), (4, 253), (4, 253)], g)) rfl
      dsimp only at h
      obtain ⟨gz16, rz17, hk, h⟩ := zcallI zy_202 h rfl rfl zy_203 zk_203
      dsimp only at hk h
      have hO18 := h
      have h := hk
      clear hk
      have h := zm zy_203 h 3 (q := (5, darg 0 [(4, 253), (0, (k : Int))], [(0, (k : Int)), (4, 254)], g)) rfl
      dsimp only at h
      obtain ⟨gz19, rz20, hk, h⟩ := zcallI zy_203 h rfl rfl zy_199 zk_199
      dsimp only at hk h
      have hO21 := h
      have h := hk
      clear hk
      have h := zm zy_199 h 5 (q := (7, darg 0 [(0, (k : Int))], [(0, w32 (99 + (w32 (8 * ((k : Int))))))], g)) rfl
      dsimp only at h
      try rw [w32_eq (z := 8 * ((k : Int))) (v := 8 * (k : Int)) (by omega) (by omega) (by omega)] at h
      try rw [w32_eq (z := 99 + (8 * (k : Int))) (v := 99 + 8 * (k : Int)) (by omega) (by omega) (by omega)] at h
      have h := zret zy_199 h rfl rfl
      obtain ⟨e1, e2⟩ := oI h
      have h := hO21
      rw [e1, e2] at h
      clear e1 e2
      clear hO21
      have h := zm zy_203 h 2 (q := (10, darg 0 [(4, 253), (0, (k : Int))], [(0, w32 ((99 + 8 * (k : Int)) + 1)), (4, 254)], g)) rfl
      dsimp only at h
      try rw [w32_eq (z := (99 + 8 * (k : Int)) + 1) (v := 100 + 8 * (k : Int)) (by omega) (by omega) (by omega)] at h
      have h := zald zy_203 h rfl rfl (dvb_254 (i := 100 + 8 * (k : Int)) (by omega) (by omega))
      dsimp only at h
      try rw [show (100 + 8 * (k : Int)).toNat = 100 + 8 * k from by omega] at h
      try rw [hO.2.1] at h
      have h := zret zy_203 h rfl rfl
      obtain ⟨e1, e2⟩ := oI h
      have h := hO18
      rw [e1, e2] at h
      clear e1 e2
      clear hO18
      have h := zm zy_202 h 2 (q := (8, darg 0 [(4, 253), (0, (k : Int))], [(0, (k : Int)), (4, 253), (0, (p : Int)), (4, 253)], g)) rfl
      dsimp only at h
      obtain ⟨gz22, rz23, hk, h⟩ := zcallI zy_202 h rfl rfl zy_204 zk_204
      dsimp only at hk h
      have hO24 := h
      have h := hk
      clear hk
      have h := zm zy_204 h 3 (q := (5, darg 0 [(4, 253), (0, (k : Int))], [(0, (k : Int)), (4, 254)], g)) rfl
      dsimp only at h
      obtain ⟨gz25, rz26, hk, h⟩ := zcallI zy_204 h rfl rfl zy_199 zk_199
      dsimp only at hk h
      have hO27 := h
      have h := hk
      clear hk
      have h := zm zy_199 h 5 (q := (7, darg 0 [(0, (k : Int))], [(0, w32 (99 + (w32 (8 * ((k : Int))))))], g)) rfl
      dsimp only at h
      try rw [w32_eq (z := 8 * ((k : Int))) (v := 8 * (k : Int)) (by omega) (by omega) (by omega)] at h
      try rw [w32_eq (z := 99 + (8 * (k : Int))) (v := 99 + 8 * (k : Int)) (by omega) (by omega) (by omega)] at h
      have h := zret zy_199 h rfl rfl
      obtain ⟨e1, e2⟩ := oI h
      have h := hO27
      rw [e1, e2] at h
      clear e1 e2
      clear hO27
      have h := zm zy_204 h 2 (q := (10, darg 0 [(4, 253), (0, (k : Int))], [(0, w32 ((99 + 8 * (k : Int)) + 3)), (4, 254)], g)) rfl
      dsimp only at h
      try rw [w32_eq (z := (99 + 8 * (k : Int)) + 3) (v := 102 + 8 * (k : Int)) (by omega) (by omega) (by omega)] at h
      have h := zald zy_204 h rfl rfl (dvb_254 (i := 102 + 8 * (k : Int)) (by omega) (by omega))
      dsimp only at h
      try rw [show (102 + 8 * (k : Int)).toNat = 102 + 8 * k from by omega] at h
      try rw [hO.2.2.2.1] at h
      have h := zret zy_204 h rfl rfl
      obtain ⟨e1, e2⟩ := oI h
      have h := hO24
      rw [e1, e2] at h
      clear e1 e2
      clear hO24
      obtain ⟨gz28, rz29, hk, h⟩ := zcallI zy_202 h rfl rfl zy_205 zk_205
      dsimp only at hk h
      have hO30 := h
      have h := hk
      clear hk
      have h := zm zy_205 h 9 (q := (13, darg 0 [(4, 253), (0, (p : Int)), (0, (t : Int))], [(0, w32 ((w32 (51 + (w32 (8 * ((p : Int)))))) + ((t : Int)))), (4, 254)], g)) rfl
      dsimp only at h
      try rw [w32_eq (z := 8 * ((p : Int))) (v := 8 * (p : Int)) (by omega) (by omega) (by omega)] at h
      try rw [w32_eq (z := 51 + (8 * (p : Int))) (v := 51 + 8 * (p : Int)) (by omega) (by omega) (by omega)] at h
      try rw [w32_eq (z := (51 + 8 * (p : Int)) + ((t : Int))) (v := 51 + 8 * (p : Int) + (t : Int)) (by omega) (by omega) (by omega)] at h
      have h := zald zy_205 h rfl rfl (dvb_254 (i := 51 + 8 * (p : Int) + (t : Int)) (by omega) (by omega))
      dsimp only at h
      try rw [show (51 + 8 * (p : Int) + (t : Int)).toNat = 51 + 8 * p + t from by omega] at h
      try rw [hv] at h
      have h := zret zy_205 h rfl rfl
      obtain ⟨e1, e2⟩ := oI h
      have h := hO30
      rw [e1, e2] at h
      clear e1 e2
      clear hO30
      have h := zm zy_202 h 2 (q := (16, darg 0 [(4, 253), (0, (k : Int))], [(0, (k : Int)), (4, 253), (0, v)], g)) rfl
      dsimp only at h
      obtain ⟨gz31, rz32, hk, h⟩ := zcallI zy_202 h rfl rfl zy_206 zk_206
      dsimp only at hk h
      have hO33 := h
      have h := hk
      clear hk
      have h := zm zy_206 h 3 (q := (5, darg 0 [(4, 253), (0, (k : Int))], [(0, (k : Int)), (4, 254)], g)) rfl
      dsimp only at h
      obtain ⟨gz34, rz35, hk, h⟩ := zcallI zy_206 h rfl rfl zy_199 zk_199
      dsimp only at hk h
      have hO36 := h
      have h := hk
      clear hk
      have h := zm zy_199 h 5 (q := (7, darg 0 [(0, (k : Int))], [(0, w32 (99 + (w32 (8 * ((k : Int))))))], g)) rfl
      dsimp only at h
      try rw [w32_eq (z := 8 * ((k : Int))) (v := 8 * (k : Int)) (by omega) (by omega) (by omega)] at h
      try rw [w32_eq (z := 99 + (8 * (k : Int))) (v := 99 + 8 * (k : Int)) (by omega) (by omega) (by omega)] at h
      have h := zret zy_199 h rfl rfl
      obtain ⟨e1, e2⟩ := oI h
      have h := hO36
      rw [e1, e2] at h
      clear e1 e2
      clear hO36
      have h := zm zy_206 h 2 (q := (10, darg 0 [(4, 253), (0, (k : Int))], [(0, w32 ((99 + 8 * (k : Int)) + 2)), (4, 254)], g)) rfl
      dsimp only at h
      try rw [w32_eq (z := (99 + 8 * (k : Int)) + 2) (v := 101 + 8 * (k : Int)) (by omega) (by omega) (by omega)] at h
      have h := zald zy_206 h rfl rfl (dvb_254 (i := 101 + 8 * (k : Int)) (by omega) (by omega))
      dsimp only at h
      try rw [show (101 + 8 * (k : Int)).toNat = 101 + 8 * k from by omega] at h
      try rw [hO.2.2.1] at h
      have h := zret zy_206 h rfl rfl
      obtain ⟨e1, e2⟩ := oI h
      have h := hO33
      rw [e1, e2] at h
      clear e1 e2
      clear hO33
      have h := zm zy_202 h 1 (q := (cond (crel .ne v ((q : Int))) 26 22, darg 0 [(4, 253), (0, (k : Int))], [], g)) rfl
      dsimp only at h
      rcases zif_ne h with ⟨hc37, h⟩ | ⟨hc37, h⟩
      · have h := zm zy_202 h 1 (q := (27, darg 0 [(4, 253), (0, (k : Int))], [(0, 0)], g)) rfl
        dsimp only at h
        have h := zret zy_202 h rfl rfl
        obtain ⟨e1, e2⟩ := oI h
        have h := hO15
        rw [e1, e2] at h
        clear e1 e2
        clear hO15
        have h := zm zy_200 h 3 (q := (21, darg 0 [(4, 253), (0, (k : Int))], [(0, 1)], g)) rfl
        dsimp only at h
        have h := zret zy_200 h rfl rfl
        obtain ⟨e1, e2⟩ := oI h
        have h := hO4
        rw [e1, e2] at h
        clear e1 e2
        clear hO4
        have h := zm zy_356 h 3 (q := (39, dset (dset (dset (dset lf 3 (0, (k : Int))) 2 (0, u)) 1 (0, (P : Int))) 0 (4, 253), [(0, (k : Int)), (4, 253), (0, u)], g)) rfl
        dsimp only at h
        obtain ⟨gz38, rz39, hk, h⟩ := zcallI zy_356 h rfl rfl zy_203 zk_203
        dsimp only at hk h
        have hO40 := h
        have h := hk
        clear hk
        have h := zm zy_203 h 3 (q := (5, darg 0 [(4, 253), (0, (k : Int))], [(0, (k : Int)), (4, 254)], g)) rfl
        dsimp only at h
        obtain ⟨gz41, rz42, hk, h⟩ := zcallI zy_203 h rfl rfl zy_199 zk_199
        dsimp only at hk h
        have hO43 := h
        have h := hk
        clear hk
        have h := zm zy_199 h 5 (q := (7, darg 0 [(0, (k : Int))], [(0, w32 (99 + (w32 (8 * ((k : Int))))))], g)) rfl
        dsimp only at h
        try rw [w32_eq (z := 8 * ((k : Int))) (v := 8 * (k : Int)) (by omega) (by omega) (by omega)] at h
        try rw [w32_eq (z := 99 + (8 * (k : Int))) (v := 99 + 8 * (k : Int)) (by omega) (by omega) (by omega)] at h
        have h := zret zy_199 h rfl rfl
        obtain ⟨e1, e2⟩ := oI h
        have h := hO43
        rw [e1, e2] at h
        clear e1 e2
        clear hO43
        have h := zm zy_203 h 2 (q := (10, darg 0 [(4, 253), (0, (k : Int))], [(0, w32 ((99 + 8 * (k : Int)) + 1)), (4, 254)], g)) rfl
        dsimp only at h
        try rw [w32_eq (z := (99 + 8 * (k : Int)) + 1) (v := 100 + 8 * (k : Int)) (by omega) (by omega) (by omega)] at h
        have h := zald zy_203 h rfl rfl (dvb_254 (i := 100 + 8 * (k : Int)) (by omega) (by omega))
        dsimp only at h
        try rw [show (100 + 8 * (k : Int)).toNat = 100 + 8 * k from by omega] at h
        try rw [hO.2.1] at h
        have h := zret zy_203 h rfl rfl
        obtain ⟨e1, e2⟩ := oI h
        have h := hO40
        rw [e1, e2] at h
        clear e1 e2
        clear hO40
        have h := zm zy_356 h 2 (q := (cond (crel .ne ((p : Int)) ((P : Int))) 56 46, dset (dset (dset (dset lf 3 (0, (k : Int))) 2 (0, u)) 1 (0, (P : Int))) 0 (4, 253), [(0, u)], g)) rfl
        dsimp only at h
        rcases zif_ne h with ⟨hc44, h⟩ | ⟨hc44, h⟩
        · have h := zm zy_356 h 5 (q := (18, dset (dset (dset (dset (dset (dset lf 3 (0, (k : Int))) 2 (0, u)) 1 (0, (P : Int))) 0 (4, 253)) 2 (0, bor u 0)) 3 (0, w32 (((k : Int)) + 1)), [], g)) rfl
          dsimp only at h
          try rw [w32_eq (z := ((k : Int)) + 1) (v := 1 + (k : Int)) (by omega) (by omega) (by omega)] at h
          refine Or.inl (⟨Or.inr (Or.inl (⟨hc11, hc37, hc44⟩)), ?_⟩)
          exact ⟨_, rfl, rfl, rfl, rfl, h⟩
        · have h := zm zy_356 h 3 (q := (49, dset (dset (dset (dset lf 3 (0, (k : Int))) 2 (0, u)) 1 (0, (P : Int))) 0 (4, 253), [(0, (k : Int)), (4, 253), (0, 1), (0, u)], g)) rfl
          dsimp only at h
          obtain ⟨gz46, rz47, hk, h⟩ := zcallI zy_356 h rfl rfl zy_211 zk_211
          dsimp only at hk h
          have hO48 := h
          have h := hk
          clear hk
          have h := zm zy_211 h 3 (q := (5, darg 0 [(4, 253), (0, (k : Int))], [(0, (k : Int)), (4, 254)], g)) rfl
          dsimp only at h
          obtain ⟨gz49, rz50, hk, h⟩ := zcallI zy_211 h rfl rfl zy_199 zk_199
          dsimp only at hk h
          have hO51 := h
          have h := hk
          clear hk
          have h := zm zy_199 h 5 (q := (7, darg 0 [(0, (k : Int))], [(0, w32 (99 + (w32 (8 * ((k : Int))))))], g)) rfl
          dsimp only at h
          try rw [w32_eq (z := 8 * ((k : Int))) (v := 8 * (k : Int)) (by omega) (by omega) (by omega)] at h
          try rw [w32_eq (z := 99 + (8 * (k : Int))) (v := 99 + 8 * (k : Int)) (by omega) (by omega) (by omega)] at h
          have h := zret zy_199 h rfl rfl
          obtain ⟨e1, e2⟩ := oI h
          have h := hO51
          rw [e1, e2] at h
          clear e1 e2
          clear hO51
          have h := zald zy_211 h rfl rfl (dvb_254 (i := 99 + 8 * (k : Int)) (by omega) (by omega))
          dsimp only at h
          try rw [show (99 + 8 * (k : Int)).toNat = 99 + 8 * k from by omega] at h
          try rw [hO.1] at h
          have h := zret zy_211 h rfl rfl
          obtain ⟨e1, e2⟩ := oI h
          have h := hO48
          rw [e1, e2] at h
          clear e1 e2
          clear hO48
          have h := zm zy_356 h 6 (q := (18, dset (dset (dset (dset (dset (dset lf 3 (0, (k : Int))) 2 (0, u)) 1 (0, (P : Int))) 0 (4, 253)) 2 (0, bor u (bsl 1 ((w : Int))))) 3 (0, w32 (((k : Int)) + 1)), [], g)) rfl
          dsimp only at h
          try rw [w32_eq (z := ((k : Int)) + 1) (v := 1 + (k : Int)) (by omega) (by omega) (by omega)] at h
          refine Or.inr (⟨⟨hc11, hc37, hc44⟩, ?_⟩)
          exact ⟨_, rfl, rfl, rfl, rfl, h⟩
      · have h := zm zy_202 h 2 (q := (27, darg 0 [(4, 253), (0, (k : Int))], [(0, 1)], g)) rfl
        dsimp only at h
        have h := zret zy_202 h rfl rfl
        obtain ⟨e1, e2⟩ := oI h
        have h := hO15
        rw [e1, e2] at h
        clear e1 e2
        clear hO15
        have h := zm zy_200 h 2 (q := (21, darg 0 [(4, 253), (0, (k : Int))], [(0, 0)], g)) rfl
        dsimp only at h
        have h := zret zy_200 h rfl rfl
        obtain ⟨e1, e2⟩ := oI h
        have h := hO4
        rw [e1, e2] at h
        clear e1 e2
        clear hO4
        have h := zm zy_356 h 6 (q := (18, dset (dset (dset (dset (dset (dset lf 3 (0, (k : Int))) 2 (0, u)) 1 (0, (P : Int))) 0 (4, 253)) 2 (0, bor u 0)) 3 (0, w32 (((k : Int)) + 1)), [], g)) rfl
        dsimp only at h
        try rw [w32_eq (z := ((k : Int)) + 1) (v := 1 + (k : Int)) (by omega) (by omega) (by omega)] at h
        refine Or.inl (⟨Or.inr (Or.inr (⟨hc11, hc37⟩)), ?_⟩)
        exact ⟨_, rfl, rfl, rfl, rfl, h⟩
theorem m_lia_e {sv : Nat → Int32} {L n : Nat} {lf : dlf} {g : cg} {o : cg × Option cv} {P k N : Nat} {u : Int} (rP : P ≤ 5) (rk : k ≤ 16) (rN : N ≤ 16) (hN : g 254 2 = (N : Int)) (hge : N ≤ k) (h : zr sv L (n + 1) 356 18 lf [] g o) (hl0 : lf 0 = (4, 253)) (hl1 : lf 1 = (0, (P : Int))) (hl2 : lf 2 = (0, u)) (hl3 : lf 3 = (0, (k : Int))) : o = (cup g 253 2 0, some (0, u)) := by
  rw [zov hl0, zov hl1, zov hl2, zov hl3] at h
  have h := zm1 zy_356 h 5 (q := (cond (crel .ge ((k : Int)) (g 254 2)) 65 28, dset (dset (dset (dset lf 3 (0, (k : Int))) 2 (0, u)) 1 (0, (P : Int))) 0 (4, 253), [], g)) rfl
  dsimp only at h
  try rw [hN] at h
  rcases zif_ge h with ⟨hc1, h⟩ | ⟨hc1, h⟩
  · have h := zm zy_356 h 2 (q := (67, dset (dset (dset (dset lf 3 (0, (k : Int))) 2 (0, u)) 1 (0, (P : Int))) 0 (4, 253), [(0, u), (4, 253)], g)) rfl
    dsimp only at h
    obtain ⟨gz2, rz3, hk, h⟩ := zcallI zy_356 h rfl rfl zy_192 zk_192
    dsimp only at hk h
    have hO4 := h
    have h := hk
    clear hk
    have h := zm zy_192 h 4 (q := (6, darg 0 [(4, 253), (0, u)], [(0, u)], cup g 253 2 0)) rfl
    dsimp only at h
    have h := zret zy_192 h rfl rfl
    obtain ⟨e1, e2⟩ := oI h
    have h := hO4
    rw [e1, e2] at h
    clear e1 e2
    clear hO4
    exact zret zy_356 h rfl rfl
  · exact absurd hc1 (by omega)
theorem t_wd0 {sv : Nat → Int32} {L n : Nat} {lf : dlf} {g : cg} {o : cg × Option cv} {a b : Int} (h : zr sv L n 353 0 lf [] g o) (hl0 : lf 0 = (4, 0)) (hl1 : lf 1 = (0, a)) (hl2 : lf 2 = (0, b)) : (((a < 0) ∨ (0 ≤ a ∧ g 3 3 ≤ a) ∨ (0 ≤ a ∧ a < g 3 3 ∧ (b < 0 ∨ 2 < b))) ∧ (o = (cup g 0 0 1, some (0, (-1))))) ∨ ((0 ≤ a ∧ a < g 3 3 ∧ b = 0) ∧ (∃ g_1 r_1, zr sv L n 136 0 (darg 0 [(4, 3), (0, a), (0, 1)]) [] g (g_1, some (0, r_1)) ∧ (o = (cup g_1 0 0 0, some (0, r_1))))) ∨ ((0 ≤ a ∧ a < g 3 3 ∧ b = 1) ∧ (∃ g_1 r_1, zr sv L n 136 0 (darg 0 [(4, 3), (0, a), (0, 0)]) [] g (g_1, some (0, r_1)) ∧ (o = (cup g_1 0 0 0, some (0, r_1))))) ∨ ((0 ≤ a ∧ a < g 3 3 ∧ b = 2) ∧ (∃ g_1 r_1, zr sv L n 140 0 (darg 0 [(4, 3), (0, a)]) [] g (g_1, some (0, r_1)) ∧ (o = (cup g_1 0 0 0, some (0, r_1))))) := by
  rw [zov hl0, zov hl1, zov hl2] at h
  have h := zm zy_353 h 3 (q := (5, dset (dset (dset lf 2 (0, b)) 1 (0, a)) 0 (4, 0), [(0, a), (4, 3)], g)) rfl
  dsimp only at h
  obtain ⟨gz1, rz2, hk, h⟩ := zcallI zy_353 h rfl rfl zy_81 zk_81
  dsimp only at hk h
  have hO3 := h
  have h := hk
  clear hk
  have h := zm zy_81 h 2 (q := (cond (crel .lt a 0) 16 4, darg 0 [(4, 3), (0, a)], [], g)) rfl
  dsimp only at h
  rcases zif_lt h with ⟨hc4, h⟩ | ⟨hc4, h⟩
  · have h := zm zy_81 h 1 (q := (17, darg 0 [(4, 3), (0, a)], [(0, 0)], g)) rfl
    dsimp only at h
    have h := zret zy_81 h rfl rfl
    obtain ⟨e1, e2⟩ := oI h
    have h := hO3
    rw [e1, e2] at h
    clear e1 e2
    clear hO3
    have h := zm zy_353 h 3 (q := (13, dset (dset (dset lf 2 (0, b)) 1 (0, a)) 0 (4, 0), [(0, 1), (4, 0)], g)) rfl
    dsimp only at h
    obtain ⟨gz5, rz6, hk, h⟩ := zcallI zy_353 h rfl rfl zy_29 zk_29
    dsimp only at hk h
    have hO7 := h
    have h := hk
    clear hk
    have h := zm zy_29 h 4 (q := (6, darg 0 [(4, 0), (0, 1)], [(0, (-1))], cup g 0 0 1)) rfl
    dsimp only at h
    have h := zret zy_29 h rfl rfl
    obtain ⟨e1, e2⟩ := oI h
    have h := hO7
    rw [e1, e2] at h
    clear e1 e2
    clear hO7
    refine Or.inl (⟨Or.inl (hc4), ?_⟩)
    exact zret zy_353 h rfl rfl
  · have h := zm zy_81 h 4 (q := (cond (crel .ge a (g 3 3)) 16 12, darg 0 [(4, 3), (0, a)], [], g)) rfl
    dsimp only at h
    rcases zif_ge h with ⟨hc8, h⟩ | ⟨hc8, h⟩
    · have h := zm zy_81 h 1 (q := (17, darg 0 [(4, 3), (0, a)], [(0, 0)], g)) rfl
      dsimp only at h
      have h := zret zy_81 h rfl rfl
      obtain ⟨e1, e2⟩ := oI h
      have h := hO3
      rw [e1, e2] at h
      clear e1 e2
      clear hO3
      have h := zm zy_353 h 3 (q := (13, dset (dset (dset lf 2 (0, b)) 1 (0, a)) 0 (4, 0), [(0, 1), (4, 0)], g)) rfl
      dsimp only at h
      obtain ⟨gz9, rz10, hk, h⟩ := zcallI zy_353 h rfl rfl zy_29 zk_29
      dsimp only at hk h
      have hO11 := h
      have h := hk
      clear hk
      have h := zm zy_29 h 4 (q := (6, darg 0 [(4, 0), (0, 1)], [(0, (-1))], cup g 0 0 1)) rfl
      dsimp only at h
      have h := zret zy_29 h rfl rfl
      obtain ⟨e1, e2⟩ := oI h
      have h := hO11
      rw [e1, e2] at h
      clear e1 e2
      clear hO11
      refine Or.inl (⟨Or.inr (Or.inl (⟨hc4, hc8⟩)), ?_⟩)
      exact zret zy_353 h rfl rfl
    · have h := zm zy_81 h 2 (q := (17, darg 0 [(4, 3), (0, a)], [(0, 1)], g)) rfl
      dsimp only at h
      have h := zret zy_81 h rfl rfl
      obtain ⟨e1, e2⟩ := oI h
      have h := hO3
      rw [e1, e2] at h
      clear e1 e2
      clear hO3
      have h := zm zy_353 h 2 (q := (18, dset (dset (dset lf 2 (0, b)) 1 (0, a)) 0 (4, 0), [(0, b)], g)) rfl
      dsimp only at h
      rcases ztab_0_2 (z := b) with hz | hz | hz | hz
      · have hz2 := hz
        have h := ztabv h hz
        have h := zm zy_353 h 1 (q := (44, dset (dset (dset lf 2 (0, b)) 1 (0, a)) 0 (4, 0), [], g)) rfl
        dsimp only at h
        have h := zm zy_353 h 5 (q := (51, dset (dset (dset lf 2 (0, b)) 1 (0, a)) 0 (4, 0), [(0, 1), (0, a), (4, 3), (4, 0)], g)) rfl
        dsimp only at h
        obtain ⟨g_1, r_1, hk, h⟩ := zcallI zy_353 h rfl rfl zy_136 zk_136
        dsimp only at hk h
        refine Or.inr (Or.inl (⟨⟨hc4, hc8, hz2⟩, ?_⟩))
        refine ⟨g_1, r_1, hk, ?_⟩
        obtain ⟨gz12, rz13, hk, h⟩ := zcallI zy_353 h rfl rfl zy_64 zk_64
        dsimp only at hk h
        have hO14 := h
        have h := hk
        clear hk
        have h := zm zy_64 h 4 (q := (6, darg 0 [(4, 0), (0, r_1)], [(0, r_1)], cup g_1 0 0 0)) rfl
        dsimp only at h
        have h := zret zy_64 h rfl rfl
        obtain ⟨e1, e2⟩ := oI h
        have h := hO14
        rw [e1, e2] at h
        clear e1 e2
        clear hO14
        exact zret zy_353 h rfl rfl
      · have hz2 := hz
        have h := ztabv h hz
        have h := zm zy_353 h 1 (q := (58, dset (dset (dset lf 2 (0, b)) 1 (0, a)) 0 (4, 0), [], g)) rfl
        dsimp only at h
        have h := zm zy_353 h 5 (q := (65, dset (dset (dset lf 2 (0, b)) 1 (0, a)) 0 (4, 0), [(0, 0), (0, a), (4, 3), (4, 0)], g)) rfl
        dsimp only at h
        obtain ⟨g_1, r_1, hk, h⟩ := zcallI zy_353 h rfl rfl zy_136 zk_136
        dsimp only at hk h
        refine Or.inr (Or.inr (Or.inl (⟨⟨hc4, hc8, hz2⟩, ?_⟩)))
        refine ⟨g_1, r_1, hk, ?_⟩
        obtain ⟨gz15, rz16, hk, h⟩ := zcallI zy_353 h rfl rfl zy_64 zk_64
        dsimp only at hk h
        have hO17 := h
        have h := hk
        clear hk
        have h := zm zy_64 h 4 (q := (6, darg 0 [(4, 0), (0, r_1)], [(0, r_1)], cup g_1 0 0 0)) rfl
        dsimp only at h
        have h := zret zy_64 h rfl rfl
        obtain ⟨e1, e2⟩ := oI h
        have h := hO17
        rw [e1, e2] at h
        clear e1 e2
        clear hO17
        exact zret zy_353 h rfl rfl
      · have hz2 := hz
        have h := ztabv h hz
        have h := zm zy_353 h 1 (q := (72, dset (dset (dset lf 2 (0, b)) 1 (0, a)) 0 (4, 0), [], g)) rfl
        dsimp only at h
        have h := zm zy_353 h 4 (q := (78, dset (dset (dset lf 2 (0, b)) 1 (0, a)) 0 (4, 0), [(0, a), (4, 3), (4, 0)], g)) rfl
        dsimp only at h
        obtain ⟨g_1, r_1, hk, h⟩ := zcallI zy_353 h rfl rfl zy_140 zk_140
        dsimp only at hk h
        refine Or.inr (Or.inr (Or.inr (⟨⟨hc4, hc8, hz2⟩, ?_⟩)))
        refine ⟨g_1, r_1, hk, ?_⟩
        obtain ⟨gz18, rz19, hk, h⟩ := zcallI zy_353 h rfl rfl zy_64 zk_64
        dsimp only at hk h
        have hO20 := h
        have h := hk
        clear hk
        have h := zm zy_64 h 4 (q := (6, darg 0 [(4, 0), (0, r_1)], [(0, r_1)], cup g_1 0 0 0)) rfl
        dsimp only at h
        have h := zret zy_64 h rfl rfl
        obtain ⟨e1, e2⟩ := oI h
        have h := hO20
        rw [e1, e2] at h
        clear e1 e2
        clear hO20
        exact zret zy_353 h rfl rfl
      · have hz2 := hz
        have h := ztabd h zy_353 rfl hz (by decide)
        have h := zm zy_353 h 2 (q := (87, dset (dset (dset lf 2 (0, b)) 1 (0, a)) 0 (4, 0), [(0, 1), (4, 0)], g)) rfl
        dsimp only at h
        obtain ⟨gz21, rz22, hk, h⟩ := zcallI zy_353 h rfl rfl zy_29 zk_29
        dsimp only at hk h
        have hO23 := h
        have h := hk
        clear hk
        have h := zm zy_29 h 4 (q := (6, darg 0 [(4, 0), (0, 1)], [(0, (-1))], cup g 0 0 1)) rfl
        dsimp only at h
        have h := zret zy_29 h rfl rfl
        obtain ⟨e1, e2⟩ := oI h
        have h := hO23
        rw [e1, e2] at h
        clear e1 e2
        clear hO23
        refine Or.inl (⟨Or.inr (Or.inr (⟨hc4, hc8, hz2⟩)), ?_⟩)
        exact zret zy_353 h rfl rfl
theorem m_wd0 {sv : Nat → Int32} {L n : Nat} {lf : dlf} {g : cg} {o : cg × Option cv} {a b : Int} (h : zr sv L n 354 0 lf [] g o) (hl0 : lf 0 = (4, 253)) (hl1 : lf 1 = (0, a)) (hl2 : lf 2 = (0, b)) : (((a < 0) ∨ (0 ≤ a ∧ g 254 1 ≤ a) ∨ (0 ≤ a ∧ a < g 254 1 ∧ b < 0) ∨ (0 ≤ a ∧ a < g 254 1 ∧ 0 ≤ b ∧ 2 < b)) ∧ (o = (cup g 253 2 1, some (0, (-1))))) ∨ ((0 ≤ a ∧ a < g 254 1 ∧ 0 ≤ b ∧ b ≤ 2) ∧ (∃ g_1 r_1, zr sv L n 243 0 (darg 0 [(4, 253), (0, a), (0, b)]) [] g (g_1, some (0, r_1)) ∧ (o = (cup g_1 253 2 0, some (0, r_1))))) := by
  rw [zov hl0, zov hl1, zov hl2] at h
  have h := zm zy_354 h 2 (q := (2, dset (dset (dset lf 2 (0, b)) 1 (0, a)) 0 (4, 253), [(0, a), (4, 253)], g)) rfl
  dsimp only at h
  obtain ⟨gz1, rz2, hk, h⟩ := zcallI zy_354 h rfl rfl zy_208 zk_208
  dsimp only at hk h
  have hO3 := h
  have h := hk
  clear hk
  have h := zm zy_208 h 2 (q := (cond (crel .lt a 0) 18 4, darg 0 [(4, 253), (0, a)], [], g)) rfl
  dsimp only at h
  rcases zif_lt h with ⟨hc4, h⟩ | ⟨hc4, h⟩
  · have h := zm zy_208 h 1 (q := (19, darg 0 [(4, 253), (0, a)], [(0, 0)], g)) rfl
    dsimp only at h
    have h := zret zy_208 h rfl rfl
    obtain ⟨e1, e2⟩ := oI h
    have h := hO3
    rw [e1, e2] at h
    clear e1 e2
    clear hO3
    have h := zm zy_354 h 3 (q := (32, dset (dset (dset lf 2 (0, b)) 1 (0, a)) 0 (4, 253), [(0, 1), (4, 253)], g)) rfl
    dsimp only at h
    obtain ⟨gz5, rz6, hk, h⟩ := zcallI zy_354 h rfl rfl zy_170 zk_170
    dsimp only at hk h
    have hO7 := h
    have h := hk
    clear hk
    have h := zm zy_170 h 4 (q := (6, darg 0 [(4, 253), (0, 1)], [(0, (-1))], cup g 253 2 1)) rfl
    dsimp only at h
    have h := zret zy_170 h rfl rfl
    obtain ⟨e1, e2⟩ := oI h
    have h := hO7
    rw [e1, e2] at h
    clear e1 e2
    clear hO7
    refine Or.inl (⟨Or.inl (hc4), ?_⟩)
    exact zret zy_354 h rfl rfl
  · have h := zm zy_208 h 6 (q := (cond (crel .ge a (g 254 1)) 18 14, darg 0 [(4, 253), (0, a)], [], g)) rfl
    dsimp only at h
    rcases zif_ge h with ⟨hc8, h⟩ | ⟨hc8, h⟩
    · have h := zm zy_208 h 1 (q := (19, darg 0 [(4, 253), (0, a)], [(0, 0)], g)) rfl
      dsimp only at h
      have h := zret zy_208 h rfl rfl
      obtain ⟨e1, e2⟩ := oI h
      have h := hO3
      rw [e1, e2] at h
      clear e1 e2
      clear hO3
      have h := zm zy_354 h 3 (q := (32, dset (dset (dset lf 2 (0, b)) 1 (0, a)) 0 (4, 253), [(0, 1), (4, 253)], g)) rfl
      dsimp only at h
      obtain ⟨gz9, rz10, hk, h⟩ := zcallI zy_354 h rfl rfl zy_170 zk_170
      dsimp only at hk h
      have hO11 := h
      have h := hk
      clear hk
      have h := zm zy_170 h 4 (q := (6, darg 0 [(4, 253), (0, 1)], [(0, (-1))], cup g 253 2 1)) rfl
      dsimp only at h
      have h := zret zy_170 h rfl rfl
      obtain ⟨e1, e2⟩ := oI h
      have h := hO11
      rw [e1, e2] at h
      clear e1 e2
      clear hO11
      refine Or.inl (⟨Or.inr (Or.inl (⟨hc4, hc8⟩)), ?_⟩)
      exact zret zy_354 h rfl rfl
    · have h := zm zy_208 h 2 (q := (19, darg 0 [(4, 253), (0, a)], [(0, 1)], g)) rfl
      dsimp only at h
      have h := zret zy_208 h rfl rfl
      obtain ⟨e1, e2⟩ := oI h
      have h := hO3
      rw [e1, e2] at h
      clear e1 e2
      clear hO3
      have h := zm zy_354 h 3 (q := (cond (crel .lt b 0) 30 12, dset (dset (dset lf 2 (0, b)) 1 (0, a)) 0 (4, 253), [], g)) rfl
      dsimp only at h
      rcases zif_lt h with ⟨hc12, h⟩ | ⟨hc12, h⟩
      · have h := zm zy_354 h 2 (q := (32, dset (dset (dset lf 2 (0, b)) 1 (0, a)) 0 (4, 253), [(0, 1), (4, 253)], g)) rfl
        dsimp only at h
        obtain ⟨gz13, rz14, hk, h⟩ := zcallI zy_354 h rfl rfl zy_170 zk_170
        dsimp only at hk h
        have hO15 := h
        have h := hk
        clear hk
        have h := zm zy_170 h 4 (q := (6, darg 0 [(4, 253), (0, 1)], [(0, (-1))], cup g 253 2 1)) rfl
        dsimp only at h
        have h := zret zy_170 h rfl rfl
        obtain ⟨e1, e2⟩ := oI h
        have h := hO15
        rw [e1, e2] at h
        clear e1 e2
        clear hO15
        refine Or.inl (⟨Or.inr (Or.inr (Or.inl (⟨hc4, hc8, hc12⟩))), ?_⟩)
        exact zret zy_354 h rfl rfl
      · have h := zm zy_354 h 3 (q := (cond (crel .gt b 2) 30 17, dset (dset (dset lf 2 (0, b)) 1 (0, a)) 0 (4, 253), [], g)) rfl
        dsimp only at h
        rcases zif_gt h with ⟨hc16, h⟩ | ⟨hc16, h⟩
        · have h := zm zy_354 h 2 (q := (32, dset (dset (dset lf 2 (0, b)) 1 (0, a)) 0 (4, 253), [(0, 1), (4, 253)], g)) rfl
          dsimp only at h
          obtain ⟨gz17, rz18, hk, h⟩ := zcallI zy_354 h rfl rfl zy_170 zk_170
          dsimp only at hk h
          have hO19 := h
          have h := hk
          clear hk
          have h := zm zy_170 h 4 (q := (6, darg 0 [(4, 253), (0, 1)], [(0, (-1))], cup g 253 2 1)) rfl
          dsimp only at h
          have h := zret zy_170 h rfl rfl
          obtain ⟨e1, e2⟩ := oI h
          have h := hO19
          rw [e1, e2] at h
          clear e1 e2
          clear hO19
          refine Or.inl (⟨Or.inr (Or.inr (Or.inr (⟨hc4, hc8, hc12, hc16⟩))), ?_⟩)
          exact zret zy_354 h rfl rfl
        · have h := zm zy_354 h 4 (q := (21, dset (dset (dset lf 2 (0, b)) 1 (0, a)) 0 (4, 253), [(0, b), (0, a), (4, 253), (4, 253)], g)) rfl
          dsimp only at h
          obtain ⟨g_1, r_1, hk, h⟩ := zcallI zy_354 h rfl rfl zy_243 zk_243
          dsimp only at hk h
          refine Or.inr (⟨⟨hc4, hc8, hc12, hc16⟩, ?_⟩)
          refine ⟨g_1, r_1, hk, ?_⟩
          obtain ⟨gz20, rz21, hk, h⟩ := zcallI zy_354 h rfl rfl zy_192 zk_192
          dsimp only at hk h
          have hO22 := h
          have h := hk
          clear hk
          have h := zm zy_192 h 4 (q := (6, darg 0 [(4, 253), (0, r_1)], [(0, r_1)], cup g_1 253 2 0)) rfl
          dsimp only at h
          have h := zret zy_192 h rfl rfl
          obtain ⟨e1, e2⟩ := oI h
          have h := hO22
          rw [e1, e2] at h
          clear e1 e2
          clear hO22
          have h := zm zy_354 h 1 (q := (35, dset (dset (dset lf 2 (0, b)) 1 (0, a)) 0 (4, 253), [(0, r_1)], cup g_1 253 2 0)) rfl
          dsimp only at h
          exact zret zy_354 h rfl rfl
theorem t_stb0_0 {sv : Nat → Int32} {L n : Nat} {lf : dlf} {g : cg} {o : cg × Option cv} {W : Nat} (rW : W ≤ 5) (h : zr sv L n 136 0 lf [] g o) (hl0 : lf 0 = (4, 3)) (hl1 : lf 1 = (0, (W : Int))) (hl2 : lf 2 = (0, 0)) : ∃ lf', lf' 0 = (4, 3) ∧ lf' 1 = (0, (W : Int)) ∧ lf' 2 = (0, 0) ∧ lf' 3 = (0, 0) ∧ lf' 4 = (0, 0) ∧ zr sv L n 136 5 lf' [] g o := by
  rw [zov hl0, zov hl1, zov hl2] at h
  have h := zm zy_136 h 4 (q := (5, dset (dset (dset (dset (dset lf 2 (0, 0)) 1 (0, (W : Int))) 0 (4, 3)) 3 (0, 0)) 4 (0, 0), [], g)) rfl
  dsimp only at h
  exact ⟨_, rfl, rfl, rfl, rfl, rfl, h⟩
theorem t_stb0_s {sv : Nat → Int32} {L n : Nat} {lf : dlf} {g : cg} {o : cg × Option cv} {W c w p q t k N : Nat} {f s b v : Int} (rW : W ≤ 5) (rc : c ≤ 15) (rw : w ≤ 5) (rp : p ≤ 5) (rq : q ≤ 4) (rt : t ≤ 7) (rk : k ≤ 15) (rN : N ≤ 16) (hN : g 3 9 = (N : Int)) (hv : g (18 + 2 * p) t = v) (hO : OHC g k w p q t f s b) (hlt : k < N) (h : zr sv L (n + 1) 136 5 lf [] g o) (hl0 : lf 0 = (4, 3)) (hl1 : lf 1 = (0, (W : Int))) (hl2 : lf 2 = (0, 0)) (hl3 : lf 3 = (0, (c : Int))) (hl4 : lf 4 = (0, (k : Int))) : ((((w : Int) ≠ (W : Int)) ∨ ((w : Int) = (W : Int) ∧ s ≠ 0) ∨ ((w : Int) = (W : Int) ∧ s = 0 ∧ v = (q : Int))) ∧ (∃ lf', lf' 0 = (4, 3) ∧ lf' 1 = (0, (W : Int)) ∧ lf' 2 = (0, 0) ∧ lf' 3 = (0, (c : Int)) ∧ lf' 4 = (0, 1 + (k : Int)) ∧ zr sv L n 136 5 lf' [] g o)) ∨ (((w : Int) = (W : Int) ∧ s = 0 ∧ v ≠ (q : Int)) ∧ (∃ lf', lf' 0 = (4, 3) ∧ lf' 1 = (0, (W : Int)) ∧ lf' 2 = (0, 0) ∧ lf' 3 = (0, 1 + (c : Int)) ∧ lf' 4 = (0, 1 + (k : Int)) ∧ zr sv L n 136 5 lf' [] g o)) := by
  rw [zov hl0, zov hl1, zov hl2, zov hl3, zov hl4] at h
  have h := zm1 zy_136 h 3 (q := (cond (crel .ge ((k : Int)) (g 3 9)) 59 14, dset (dset (dset (dset (dset lf 4 (0, (k : Int))) 3 (0, (c : Int))) 2 (0, 0)) 1 (0, (W : Int))) 0 (4, 3), [], g)) rfl
  dsimp only at h
  try rw [hN] at h
  rcases zif_ge h with ⟨hc1, h⟩ | ⟨hc1, h⟩
  · exact absurd hc1 (by omega)
  · have h := zm zy_136 h 3 (q := (20, dset (dset (dset (dset (dset lf 4 (0, (k : Int))) 3 (0, (c : Int))) 2 (0, 0)) 1 (0, (W : Int))) 0 (4, 3), [(0, (k : Int)), (4, 7)], g)) rfl
    dsimp only at h
    have h := zald zy_136 h rfl rfl (dvp_7 (i := (k : Int)) (by omega) (by omega))
    dsimp only at h
    have h := zm zy_136 h 2 (q := (25, dset (dset (dset (dset (dset (dset lf 4 (0, (k : Int))) 3 (0, (c : Int))) 2 (0, 0)) 1 (0, (W : Int))) 0 (4, 3)) 5 (4, 29 + ((k : Int))), [(4, 29 + ((k : Int)))], g)) rfl
    dsimp only at h
    have h := zgf zy_136 h rfl rfl (dvf_29_0 (i := (k : Int)) (by omega) (by omega))
    dsimp only at h
    try rw [show (29 + ((k : Int))).toNat = 29 + k from by omega] at h
    try rw [hO.1] at h
    have h := zm zy_136 h 2 (q := (cond (crel .ne ((w : Int)) ((W : Int))) 53 32, dset (dset (dset (dset (dset (dset lf 4 (0, (k : Int))) 3 (0, (c : Int))) 2 (0, 0)) 1 (0, (W : Int))) 0 (4, 3)) 5 (4, 29 + ((k : Int))), [], g)) rfl
    dsimp only at h
    rcases zif_ne h with ⟨hc2, h⟩ | ⟨hc2, h⟩
    · have h := zm zy_136 h 2 (q := (5, dset (dset (dset (dset (dset (dset (dset lf 4 (0, (k : Int))) 3 (0, (c : Int))) 2 (0, 0)) 1 (0, (W : Int))) 0 (4, 3)) 5 (4, 29 + ((k : Int)))) 4 (0, w32 (((k : Int)) + 1)), [], g)) rfl
      dsimp only at h
      try rw [w32_eq (z := ((k : Int)) + 1) (v := 1 + (k : Int)) (by omega) (by omega) (by omega)] at h
      refine Or.inl (⟨Or.inl (hc2), ?_⟩)
      exact ⟨_, rfl, rfl, rfl, rfl, rfl, h⟩
    · have h := zm zy_136 h 1 (q := (34, dset (dset (dset (dset (dset (dset lf 4 (0, (k : Int))) 3 (0, (c : Int))) 2 (0, 0)) 1 (0, (W : Int))) 0 (4, 3)) 5 (4, 29 + ((k : Int))), [(4, 29 + ((k : Int)))], g)) rfl
      dsimp only at h
      have h := zgf zy_136 h rfl rfl (dvf_29_5 (i := (k : Int)) (by omega) (by omega))
      dsimp only at h
      try rw [show (29 + ((k : Int))).toNat = 29 + k from by omega] at h
      try rw [hO.2.2.2.2.2.1] at h
      have h := zm zy_136 h 1 (q := (cond (crel .ne s 0) 53 40, dset (dset (dset (dset (dset (dset lf 4 (0, (k : Int))) 3 (0, (c : Int))) 2 (0, 0)) 1 (0, (W : Int))) 0 (4, 3)) 5 (4, 29 + ((k : Int))), [], g)) rfl
      dsimp only at h
      rcases zif_ne h with ⟨hc4, h⟩ | ⟨hc4, h⟩
      · have h := zm zy_136 h 2 (q := (5, dset (dset (dset (dset (dset (dset (dset lf 4 (0, (k : Int))) 3 (0, (c : Int))) 2 (0, 0)) 1 (0, (W : Int))) 0 (4, 3)) 5 (4, 29 + ((k : Int)))) 4 (0, w32 (((k : Int)) + 1)), [], g)) rfl
        dsimp only at h
        try rw [w32_eq (z := ((k : Int)) + 1) (v := 1 + (k : Int)) (by omega) (by omega) (by omega)] at h
        refine Or.inl (⟨Or.inr (Or.inl (⟨hc2, hc4⟩)), ?_⟩)
        exact ⟨_, rfl, rfl, rfl, rfl, rfl, h⟩
      · have h := zm zy_136 h 2 (q := (43, dset (dset (dset (dset (dset (dset lf 4 (0, (k : Int))) 3 (0, (c : Int))) 2 (0, 0)) 1 (0, (W : Int))) 0 (4, 3)) 5 (4, 29 + ((k : Int))), [(4, 29 + ((k : Int))), (4, 3)], g)) rfl
        dsimp only at h
        obtain ⟨gz6, rz7, hk, h⟩ := zcallI zy_136 h rfl rfl zy_88 zk_88
        dsimp only at hk h
        have hO8 := h
        have h := hk
        clear hk
        have h := zm zy_88 h 3 (q := (5, darg 0 [(4, 3), (4, 29 + ((k : Int)))], [(4, 29 + ((k : Int))), (4, 6)], g)) rfl
        dsimp only at h
        have h := zgf zy_88 h rfl rfl (dvf_29_1 (i := (k : Int)) (by omega) (by omega))
        dsimp only at h
        try rw [show (29 + ((k : Int))).toNat = 29 + k from by omega] at h
        try rw [hO.2.1] at h
        have h := zald zy_88 h rfl rfl (dvp_6 (i := (p : Int)) (by omega) (by omega))
        dsimp only at h
        have h := zgf zy_88 h rfl rfl (dvf_17_6 (i := (p : Int)) (by omega) (by omega))
        have h := zm zy_88 h 1 (q := (13, darg 0 [(4, 3), (4, 29 + ((k : Int)))], [(4, 29 + ((k : Int))), (4, 18 + 2 * ((p : Int)))], g)) rfl
        dsimp only at h
        have h := zgf zy_88 h rfl rfl (dvf_29_3 (i := (k : Int)) (by omega) (by omega))
        dsimp only at h
        try rw [show (29 + ((k : Int))).toNat = 29 + k from by omega] at h
        try rw [hO.2.2.2.1] at h
        have h := zald zy_88 h rfl rfl (dvr_18 (i := (p : Int)) (j := (t : Int)) (by omega) (by omega) (by omega) (by omega))
        dsimp only at h
        try rw [show (18 + 2 * ((p : Int))).toNat = 18 + 2 * p from by omega] at h
        try rw [show ((t : Int)).toNat = t from by omega] at h
        try rw [hv] at h
        have h := zm zy_88 h 1 (q := (18, darg 0 [(4, 3), (4, 29 + ((k : Int)))], [(4, 29 + ((k : Int))), (0, v)], g)) rfl
        dsimp only at h
        have h := zgf zy_88 h rfl rfl (dvf_29_2 (i := (k : Int)) (by omega) (by omega))
        dsimp only at h
        try rw [show (29 + ((k : Int))).toNat = 29 + k from by omega] at h
        try rw [hO.2.2.1] at h
        have h := zm zy_88 h 1 (q := (cond (crel .ne v ((q : Int))) 28 24, darg 0 [(4, 3), (4, 29 + ((k : Int)))], [], g)) rfl
        dsimp only at h
        rcases zif_ne h with ⟨hc9, h⟩ | ⟨hc9, h⟩
        · have h := zm zy_88 h 1 (q := (29, darg 0 [(4, 3), (4, 29 + ((k : Int)))], [(0, 0)], g)) rfl
          dsimp only at h
          have h := zret zy_88 h rfl rfl
          obtain ⟨e1, e2⟩ := oI h
          have h := hO8
          rw [e1, e2] at h
          clear e1 e2
          clear hO8
          have h := zm zy_136 h 5 (q := (5, dset (dset (dset (dset (dset (dset (dset (dset lf 4 (0, (k : Int))) 3 (0, (c : Int))) 2 (0, 0)) 1 (0, (W : Int))) 0 (4, 3)) 5 (4, 29 + ((k : Int)))) 3 (0, w32 (((c : Int)) + 1))) 4 (0, w32 (((k : Int)) + 1)), [], g)) rfl
          dsimp only at h
          try rw [w32_eq (z := ((c : Int)) + 1) (v := 1 + (c : Int)) (by omega) (by omega) (by omega)] at h
          try rw [w32_eq (z := ((k : Int)) + 1) (v := 1 + (k : Int)) (by omega) (by omega) (by omega)] at h
          refine Or.inr (⟨⟨hc2, hc4, hc9⟩, ?_⟩)
          exact ⟨_, rfl, rfl, rfl, rfl, rfl, h⟩
        · have h := zm zy_88 h 2 (q := (29, darg 0 [(4, 3), (4, 29 + ((k : Int)))], [(0, 1)], g)) rfl
          dsimp only at h
          have h := zret zy_88 h rfl rfl
          obtain ⟨e1, e2⟩ := oI h
          have h := hO8
          rw [e1, e2] at h
          clear e1 e2
          clear hO8
          have h := zm zy_136 h 4 (q := (5, dset (dset (dset (dset (dset (dset (dset lf 4 (0, (k : Int))) 3 (0, (c : Int))) 2 (0, 0)) 1 (0, (W : Int))) 0 (4, 3)) 5 (4, 29 + ((k : Int)))) 4 (0, w32 (((k : Int)) + 1)), [], g)) rfl
          dsimp only at h
          try rw [w32_eq (z := ((k : Int)) + 1) (v := 1 + (k : Int)) (by omega) (by omega) (by omega)] at h
          refine Or.inl (⟨Or.inr (Or.inr (⟨hc2, hc4, hc9⟩)), ?_⟩)
          exact ⟨_, rfl, rfl, rfl, rfl, rfl, h⟩
theorem t_stb0_e {sv : Nat → Int32} {L n : Nat} {lf : dlf} {g : cg} {o : cg × Option cv} {W c k N : Nat} (rW : W ≤ 5) (rc : c ≤ 16) (rk : k ≤ 16) (rN : N ≤ 16) (hN : g 3 9 = (N : Int)) (hge : N ≤ k) (h : zr sv L (n + 1) 136 5 lf [] g o) (hl0 : lf 0 = (4, 3)) (hl1 : lf 1 = (0, (W : Int))) (hl2 : lf 2 = (0, 0)) (hl3 : lf 3 = (0, (c : Int))) (hl4 : lf 4 = (0, (k : Int))) : o = (g, some (0, (c : Int))) := by
  rw [zov hl0, zov hl1, zov hl2, zov hl3, zov hl4] at h
  have h := zm1 zy_136 h 3 (q := (cond (crel .ge ((k : Int)) (g 3 9)) 59 14, dset (dset (dset (dset (dset lf 4 (0, (k : Int))) 3 (0, (c : Int))) 2 (0, 0)) 1 (0, (W : Int))) 0 (4, 3), [], g)) rfl
  dsimp only at h
  try rw [hN] at h
  rcases zif_ge h with ⟨hc1, h⟩ | ⟨hc1, h⟩
  · have h := zm zy_136 h 1 (q := (60, dset (dset (dset (dset (dset lf 4 (0, (k : Int))) 3 (0, (c : Int))) 2 (0, 0)) 1 (0, (W : Int))) 0 (4, 3), [(0, (c : Int))], g)) rfl
    dsimp only at h
    exact zret zy_136 h rfl rfl
  · exact absurd hc1 (by omega)
theorem t_stb0_1 {sv : Nat → Int32} {L n : Nat} {lf : dlf} {g : cg} {o : cg × Option cv} {W : Nat} (rW : W ≤ 5) (h : zr sv L n 136 0 lf [] g o) (hl0 : lf 0 = (4, 3)) (hl1 : lf 1 = (0, (W : Int))) (hl2 : lf 2 = (0, 1)) : ∃ lf', lf' 0 = (4, 3) ∧ lf' 1 = (0, (W : Int)) ∧ lf' 2 = (0, 1) ∧ lf' 3 = (0, 0) ∧ lf' 4 = (0, 0) ∧ zr sv L n 136 5 lf' [] g o := by
  rw [zov hl0, zov hl1, zov hl2] at h
  have h := zm zy_136 h 4 (q := (5, dset (dset (dset (dset (dset lf 2 (0, 1)) 1 (0, (W : Int))) 0 (4, 3)) 3 (0, 0)) 4 (0, 0), [], g)) rfl
  dsimp only at h
  exact ⟨_, rfl, rfl, rfl, rfl, rfl, h⟩
theorem t_stb1_s {sv : Nat → Int32} {L n : Nat} {lf : dlf} {g : cg} {o : cg × Option cv} {W c w p q t k N : Nat} {f s b v : Int} (rW : W ≤ 5) (rc : c ≤ 15) (rw : w ≤ 5) (rp : p ≤ 5) (rq : q ≤ 4) (rt : t ≤ 7) (rk : k ≤ 15) (rN : N ≤ 16) (hN : g 3 9 = (N : Int)) (hv : g (18 + 2 * p) t = v) (hO : OHC g k w p q t f s b) (hlt : k < N) (h : zr sv L (n + 1) 136 5 lf [] g o) (hl0 : lf 0 = (4, 3)) (hl1 : lf 1 = (0, (W : Int))) (hl2 : lf 2 = (0, 1)) (hl3 : lf 3 = (0, (c : Int))) (hl4 : lf 4 = (0, (k : Int))) : ((((w : Int) ≠ (W : Int)) ∨ ((w : Int) = (W : Int) ∧ s ≠ 0) ∨ ((w : Int) = (W : Int) ∧ s = 0 ∧ v ≠ (q : Int))) ∧ (∃ lf', lf' 0 = (4, 3) ∧ lf' 1 = (0, (W : Int)) ∧ lf' 2 = (0, 1) ∧ lf' 3 = (0, (c : Int)) ∧ lf' 4 = (0, 1 + (k : Int)) ∧ zr sv L n 136 5 lf' [] g o)) ∨ (((w : Int) = (W : Int) ∧ s = 0 ∧ v = (q : Int)) ∧ (∃ lf', lf' 0 = (4, 3) ∧ lf' 1 = (0, (W : Int)) ∧ lf' 2 = (0, 1) ∧ lf' 3 = (0, 1 + (c : Int)) ∧ lf' 4 = (0, 1 + (k : Int)) ∧ zr sv L n 136 5 lf' [] g o)) := by
  rw [zov hl0, zov hl1, zov hl2, zov hl3, zov hl4] at h
  have h := zm1 zy_136 h 3 (q := (cond (crel .ge ((k : Int)) (g 3 9)) 59 14, dset (dset (dset (dset (dset lf 4 (0, (k : Int))) 3 (0, (c : Int))) 2 (0, 1)) 1 (0, (W : Int))) 0 (4, 3), [], g)) rfl
  dsimp only at h
  try rw [hN] at h
  rcases zif_ge h with ⟨hc1, h⟩ | ⟨hc1, h⟩
  · exact absurd hc1 (by omega)
  · have h := zm zy_136 h 3 (q := (20, dset (dset (dset (dset (dset lf 4 (0, (k : Int))) 3 (0, (c : Int))) 2 (0, 1)) 1 (0, (W : Int))) 0 (4, 3), [(0, (k : Int)), (4, 7)], g)) rfl
    dsimp only at h
    have h := zald zy_136 h rfl rfl (dvp_7 (i := (k : Int)) (by omega) (by omega))
    dsimp only at h
    have h := zm zy_136 h 2 (q := (25, dset (dset (dset (dset (dset (dset lf 4 (0, (k : Int))) 3 (0, (c : Int))) 2 (0, 1)) 1 (0, (W : Int))) 0 (4, 3)) 5 (4, 29 + ((k : Int))), [(4, 29 + ((k : Int)))], g)) rfl
    dsimp only at h
    have h := zgf zy_136 h rfl rfl (dvf_29_0 (i := (k : Int)) (by omega) (by omega))
    dsimp only at h
    try rw [show (29 + ((k : Int))).toNat = 29 + k from by omega] at h
    try rw [hO.1] at h
    have h := zm zy_136 h 2 (q := (cond (crel .ne ((w : Int)) ((W : Int))) 53 32, dset (dset (dset (dset (dset (dset lf 4 (0, (k : Int))) 3 (0, (c : Int))) 2 (0, 1)) 1 (0, (W : Int))) 0 (4, 3)) 5 (4, 29 + ((k : Int))), [], g)) rfl
    dsimp only at h
    rcases zif_ne h with ⟨hc2, h⟩ | ⟨hc2, h⟩
    · have h := zm zy_136 h 2 (q := (5, dset (dset (dset (dset (dset (dset (dset lf 4 (0, (k : Int))) 3 (0, (c : Int))) 2 (0, 1)) 1 (0, (W : Int))) 0 (4, 3)) 5 (4, 29 + ((k : Int)))) 4 (0, w32 (((k : Int)) + 1)), [], g)) rfl
      dsimp only at h
      try rw [w32_eq (z := ((k : Int)) + 1) (v := 1 + (k : Int)) (by omega) (by omega) (by omega)] at h
      refine Or.inl (⟨Or.inl (hc2), ?_⟩)
      exact ⟨_, rfl, rfl, rfl, rfl, rfl, h⟩
    · have h := zm zy_136 h 1 (q := (34, dset (dset (dset (dset (dset (dset lf 4 (0, (k : Int))) 3 (0, (c : Int))) 2 (0, 1)) 1 (0, (W : Int))) 0 (4, 3)) 5 (4, 29 + ((k : Int))), [(4, 29 + ((k : Int)))], g)) rfl
      dsimp only at h
      have h := zgf zy_136 h rfl rfl (dvf_29_5 (i := (k : Int)) (by omega) (by omega))
      dsimp only at h
      try rw [show (29 + ((k : Int))).toNat = 29 + k from by omega] at h
      try rw [hO.2.2.2.2.2.1] at h
      have h := zm zy_136 h 1 (q := (cond (crel .ne s 0) 53 40, dset (dset (dset (dset (dset (dset lf 4 (0, (k : Int))) 3 (0, (c : Int))) 2 (0, 1)) 1 (0, (W : Int))) 0 (4, 3)) 5 (4, 29 + ((k : Int))), [], g)) rfl
      dsimp only at h
      rcases zif_ne h with ⟨hc4, h⟩ | ⟨hc4, h⟩
      · have h := zm zy_136 h 2 (q := (5, dset (dset (dset (dset (dset (dset (dset lf 4 (0, (k : Int))) 3 (0, (c : Int))) 2 (0, 1)) 1 (0, (W : Int))) 0 (4, 3)) 5 (4, 29 + ((k : Int)))) 4 (0, w32 (((k : Int)) + 1)), [], g)) rfl
        dsimp only at h
        try rw [w32_eq (z := ((k : Int)) + 1) (v := 1 + (k : Int)) (by omega) (by omega) (by omega)] at h
        refine Or.inl (⟨Or.inr (Or.inl (⟨hc2, hc4⟩)), ?_⟩)
        exact ⟨_, rfl, rfl, rfl, rfl, rfl, h⟩
      · have h := zm zy_136 h 2 (q := (43, dset (dset (dset (dset (dset (dset lf 4 (0, (k : Int))) 3 (0, (c : Int))) 2 (0, 1)) 1 (0, (W : Int))) 0 (4, 3)) 5 (4, 29 + ((k : Int))), [(4, 29 + ((k : Int))), (4, 3)], g)) rfl
        dsimp only at h
        obtain ⟨gz6, rz7, hk, h⟩ := zcallI zy_136 h rfl rfl zy_88 zk_88
        dsimp only at hk h
        have hO8 := h
        have h := hk
        clear hk
        have h := zm zy_88 h 3 (q := (5, darg 0 [(4, 3), (4, 29 + ((k : Int)))], [(4, 29 + ((k : Int))), (4, 6)], g)) rfl
        dsimp only at h
        have h := zgf zy_88 h rfl rfl (dvf_29_1 (i := (k : Int)) (by omega) (by omega))
        dsimp only at h
        try rw [show (29 + ((k : Int))).toNat = 29 + k from by omega] at h
        try rw [hO.2.1] at h
        have h := zald zy_88 h rfl rfl (dvp_6 (i := (p : Int)) (by omega) (by omega))
        dsimp only at h
        have h := zgf zy_88 h rfl rfl (dvf_17_6 (i := (p : Int)) (by omega) (by omega))
        have h := zm zy_88 h 1 (q := (13, darg 0 [(4, 3), (4, 29 + ((k : Int)))], [(4, 29 + ((k : Int))), (4, 18 + 2 * ((p : Int)))], g)) rfl
        dsimp only at h
        have h := zgf zy_88 h rfl rfl (dvf_29_3 (i := (k : Int)) (by omega) (by omega))
        dsimp only at h
        try rw [show (29 + ((k : Int))).toNat = 29 + k from by omega] at h
        try rw [hO.2.2.2.1] at h
        have h := zald zy_88 h rfl rfl (dvr_18 (i := (p : Int)) (j := (t : Int)) (by omega) (by omega) (by omega) (by omega))
        dsimp only at h
        try rw [show (18 + 2 * ((p : Int))).toNat = 18 + 2 * p from by omega] at h
        try rw [show ((t : Int)).toNat = t from by omega] at h
        try rw [hv] at h
        have h := zm zy_88 h 1 (q := (18, darg 0 [(4, 3), (4, 29 + ((k : Int)))], [(4, 29 + ((k : Int))), (0, v)], g)) rfl
        dsimp only at h
        have h := zgf zy_88 h rfl rfl (dvf_29_2 (i := (k : Int)) (by omega) (by omega))
        dsimp only at h
        try rw [show (29 + ((k : Int))).toNat = 29 + k from by omega] at h
        try rw [hO.2.2.1] at h
        have h := zm zy_88 h 1 (q := (cond (crel .ne v ((q : Int))) 28 24, darg 0 [(4, 3), (4, 29 + ((k : Int)))], [], g)) rfl
        dsimp only at h
        rcases zif_ne h with ⟨hc9, h⟩ | ⟨hc9, h⟩
        · have h := zm zy_88 h 1 (q := (29, darg 0 [(4, 3), (4, 29 + ((k : Int)))], [(0, 0)], g)) rfl
          dsimp only at h
          have h := zret zy_88 h rfl rfl
          obtain ⟨e1, e2⟩ := oI h
          have h := hO8
          rw [e1, e2] at h
          clear e1 e2
          clear hO8
          have h := zm zy_136 h 4 (q := (5, dset (dset (dset (dset (dset (dset (dset lf 4 (0, (k : Int))) 3 (0, (c : Int))) 2 (0, 1)) 1 (0, (W : Int))) 0 (4, 3)) 5 (4, 29 + ((k : Int)))) 4 (0, w32 (((k : Int)) + 1)), [], g)) rfl
          dsimp only at h
          try rw [w32_eq (z := ((k : Int)) + 1) (v := 1 + (k : Int)) (by omega) (by omega) (by omega)] at h
          refine Or.inl (⟨Or.inr (Or.inr (⟨hc2, hc4, hc9⟩)), ?_⟩)
          exact ⟨_, rfl, rfl, rfl, rfl, rfl, h⟩
        · have h := zm zy_88 h 2 (q := (29, darg 0 [(4, 3), (4, 29 + ((k : Int)))], [(0, 1)], g)) rfl
          dsimp only at h
          have h := zret zy_88 h rfl rfl
          obtain ⟨e1, e2⟩ := oI h
          have h := hO8
          rw [e1, e2] at h
          clear e1 e2
          clear hO8
          have h := zm zy_136 h 5 (q := (5, dset (dset (dset (dset (dset (dset (dset (dset lf 4 (0, (k : Int))) 3 (0, (c : Int))) 2 (0, 1)) 1 (0, (W : Int))) 0 (4, 3)) 5 (4, 29 + ((k : Int)))) 3 (0, w32 (((c : Int)) + 1))) 4 (0, w32 (((k : Int)) + 1)), [], g)) rfl
          dsimp only at h
          try rw [w32_eq (z := ((c : Int)) + 1) (v := 1 + (c : Int)) (by omega) (by omega) (by omega)] at h
          try rw [w32_eq (z := ((k : Int)) + 1) (v := 1 + (k : Int)) (by omega) (by omega) (by omega)] at h
          refine Or.inr (⟨⟨hc2, hc4, hc9⟩, ?_⟩)
          exact ⟨_, rfl, rfl, rfl, rfl, rfl, h⟩
theorem t_stb1_e {sv : Nat → Int32} {L n : Nat} {lf : dlf} {g : cg} {o : cg × Option cv} {W c k N : Nat} (rW : W ≤ 5) (rc : c ≤ 16) (rk : k ≤ 16) (rN : N ≤ 16) (hN : g 3 9 = (N : Int)) (hge : N ≤ k) (h : zr sv L (n + 1) 136 5 lf [] g o) (hl0 : lf 0 = (4, 3)) (hl1 : lf 1 = (0, (W : Int))) (hl2 : lf 2 = (0, 1)) (hl3 : lf 3 = (0, (c : Int))) (hl4 : lf 4 = (0, (k : Int))) : o = (g, some (0, (c : Int))) := by
  rw [zov hl0, zov hl1, zov hl2, zov hl3, zov hl4] at h
  have h := zm1 zy_136 h 3 (q := (cond (crel .ge ((k : Int)) (g 3 9)) 59 14, dset (dset (dset (dset (dset lf 4 (0, (k : Int))) 3 (0, (c : Int))) 2 (0, 1)) 1 (0, (W : Int))) 0 (4, 3), [], g)) rfl
  dsimp only at h
  try rw [hN] at h
  rcases zif_ge h with ⟨hc1, h⟩ | ⟨hc1, h⟩
  · have h := zm zy_136 h 1 (q := (60, dset (dset (dset (dset (dset lf 4 (0, (k : Int))) 3 (0, (c : Int))) 2 (0, 1)) 1 (0, (W : Int))) 0 (4, 3), [(0, (c : Int))], g)) rfl
    dsimp only at h
    exact zret zy_136 h rfl rfl
  · exact absurd hc1 (by omega)
theorem t_vdb0 {sv : Nat → Int32} {L n : Nat} {lf : dlf} {g : cg} {o : cg × Option cv} {W : Nat} (rW : W ≤ 5) (h : zr sv L n 140 0 lf [] g o) (hl0 : lf 0 = (4, 3)) (hl1 : lf 1 = (0, (W : Int))) : ∃ lf', lf' 0 = (4, 3) ∧ lf' 1 = (0, (W : Int)) ∧ lf' 2 = (0, 0) ∧ lf' 3 = (0, 0) ∧ zr sv L n 140 4 lf' [] g o := by
  rw [zov hl0, zov hl1] at h
  have h := zm zy_140 h 4 (q := (4, dset (dset (dset (dset lf 1 (0, (W : Int))) 0 (4, 3)) 2 (0, 0)) 3 (0, 0), [], g)) rfl
  dsimp only at h
  exact ⟨_, rfl, rfl, rfl, rfl, h⟩
theorem t_vdb_s {sv : Nat → Int32} {L n : Nat} {lf : dlf} {g : cg} {o : cg × Option cv} {W c w p q t k N : Nat} {f s b : Int} (rW : W ≤ 5) (rc : c ≤ 15) (rw : w ≤ 5) (rp : p ≤ 5) (rq : q ≤ 4) (rt : t ≤ 7) (rk : k ≤ 15) (rN : N ≤ 16) (hN : g 3 9 = (N : Int)) (hO : OHC g k w p q t f s b) (hlt : k < N) (h : zr sv L (n + 1) 140 4 lf [] g o) (hl0 : lf 0 = (4, 3)) (hl1 : lf 1 = (0, (W : Int))) (hl2 : lf 2 = (0, (c : Int))) (hl3 : lf 3 = (0, (k : Int))) : ((((w : Int) ≠ (W : Int)) ∨ ((w : Int) = (W : Int) ∧ s ≠ 1)) ∧ (∃ lf', lf' 0 = (4, 3) ∧ lf' 1 = (0, (W : Int)) ∧ lf' 2 = (0, (c : Int)) ∧ lf' 3 = (0, 1 + (k : Int)) ∧ zr sv L n 140 4 lf' [] g o)) ∨ (((w : Int) = (W : Int) ∧ s = 1) ∧ (∃ lf', lf' 0 = (4, 3) ∧ lf' 1 = (0, (W : Int)) ∧ lf' 2 = (0, 1 + (c : Int)) ∧ lf' 3 = (0, 1 + (k : Int)) ∧ zr sv L n 140 4 lf' [] g o)) := by
  rw [zov hl0, zov hl1, zov hl2, zov hl3] at h
  have h := zm1 zy_140 h 3 (q := (cond (crel .ge ((k : Int)) (g 3 9)) 47 12, dset (dset (dset (dset lf 3 (0, (k : Int))) 2 (0, (c : Int))) 1 (0, (W : Int))) 0 (4, 3), [], g)) rfl
  dsimp only at h
  try rw [hN] at h
  rcases zif_ge h with ⟨hc1, h⟩ | ⟨hc1, h⟩
  · exact absurd hc1 (by omega)
  · have h := zm zy_140 h 3 (q := (17, dset (dset (dset (dset lf 3 (0, (k : Int))) 2 (0, (c : Int))) 1 (0, (W : Int))) 0 (4, 3), [(0, (k : Int)), (4, 7)], g)) rfl
    dsimp only at h
    have h := zald zy_140 h rfl rfl (dvp_7 (i := (k : Int)) (by omega) (by omega))
    dsimp only at h
    have h := zgf zy_140 h rfl rfl (dvf_29_0 (i := (k : Int)) (by omega) (by omega))
    dsimp only at h
    try rw [show (29 + ((k : Int))).toNat = 29 + k from by omega] at h
    try rw [hO.1] at h
    have h := zm zy_140 h 2 (q := (cond (crel .ne ((w : Int)) ((W : Int))) 41 25, dset (dset (dset (dset lf 3 (0, (k : Int))) 2 (0, (c : Int))) 1 (0, (W : Int))) 0 (4, 3), [], g)) rfl
    dsimp only at h
    rcases zif_ne h with ⟨hc2, h⟩ | ⟨hc2, h⟩
    · have h := zm zy_140 h 2 (q := (4, dset (dset (dset (dset (dset lf 3 (0, (k : Int))) 2 (0, (c : Int))) 1 (0, (W : Int))) 0 (4, 3)) 3 (0, w32 (((k : Int)) + 1)), [], g)) rfl
      dsimp only at h
      try rw [w32_eq (z := ((k : Int)) + 1) (v := 1 + (k : Int)) (by omega) (by omega) (by omega)] at h
      refine Or.inl (⟨Or.inl (hc2), ?_⟩)
      exact ⟨_, rfl, rfl, rfl, rfl, h⟩
    · have h := zm zy_140 h 3 (q := (30, dset (dset (dset (dset lf 3 (0, (k : Int))) 2 (0, (c : Int))) 1 (0, (W : Int))) 0 (4, 3), [(0, (k : Int)), (4, 7)], g)) rfl
      dsimp only at h
      have h := zald zy_140 h rfl rfl (dvp_7 (i := (k : Int)) (by omega) (by omega))
      dsimp only at h
      have h := zgf zy_140 h rfl rfl (dvf_29_5 (i := (k : Int)) (by omega) (by omega))
      dsimp only at h
      try rw [show (29 + ((k : Int))).toNat = 29 + k from by omega] at h
      try rw [hO.2.2.2.2.2.1] at h
      have h := zm zy_140 h 2 (q := (cond (crel .ne s 1) 41 38, dset (dset (dset (dset lf 3 (0, (k : Int))) 2 (0, (c : Int))) 1 (0, (W : Int))) 0 (4, 3), [], g)) rfl
      dsimp only at h
      rcases zif_ne h with ⟨hc4, h⟩ | ⟨hc4, h⟩
      · have h := zm zy_140 h 2 (q := (4, dset (dset (dset (dset (dset lf 3 (0, (k : Int))) 2 (0, (c : Int))) 1 (0, (W : Int))) 0 (4, 3)) 3 (0, w32 (((k : Int)) + 1)), [], g)) rfl
        dsimp only at h
        try rw [w32_eq (z := ((k : Int)) + 1) (v := 1 + (k : Int)) (by omega) (by omega) (by omega)] at h
        refine Or.inl (⟨Or.inr (⟨hc2, hc4⟩), ?_⟩)
        exact ⟨_, rfl, rfl, rfl, rfl, h⟩
      · have h := zm zy_140 h 3 (q := (4, dset (dset (dset (dset (dset (dset lf 3 (0, (k : Int))) 2 (0, (c : Int))) 1 (0, (W : Int))) 0 (4, 3)) 2 (0, w32 (((c : Int)) + 1))) 3 (0, w32 (((k : Int)) + 1)), [], g)) rfl
        dsimp only at h
        try rw [w32_eq (z := ((c : Int)) + 1) (v := 1 + (c : Int)) (by omega) (by omega) (by omega)] at h
        try rw [w32_eq (z := ((k : Int)) + 1) (v := 1 + (k : Int)) (by omega) (by omega) (by omega)] at h
        refine Or.inr (⟨⟨hc2, hc4⟩, ?_⟩)
        exact ⟨_, rfl, rfl, rfl, rfl, h⟩
theorem t_vdb_e {sv : Nat → Int32} {L n : Nat} {lf : dlf} {g : cg} {o : cg × Option cv} {W c k N : Nat} (rW : W ≤ 5) (rc : c ≤ 16) (rk : k ≤ 16) (rN : N ≤ 16) (hN : g 3 9 = (N : Int)) (hge : N ≤ k) (h : zr sv L (n + 1) 140 4 lf [] g o) (hl0 : lf 0 = (4, 3)) (hl1 : lf 1 = (0, (W : Int))) (hl2 : lf 2 = (0, (c : Int))) (hl3 : lf 3 = (0, (k : Int))) : o = (g, some (0, (c : Int))) := by
  rw [zov hl0, zov hl1, zov hl2, zov hl3] at h
  have h := zm1 zy_140 h 3 (q := (cond (crel .ge ((k : Int)) (g 3 9)) 47 12, dset (dset (dset (dset lf 3 (0, (k : Int))) 2 (0, (c : Int))) 1 (0, (W : Int))) 0 (4, 3), [], g)) rfl
  dsimp only at h
  try rw [hN] at h
  rcases zif_ge h with ⟨hc1, h⟩ | ⟨hc1, h⟩
  · have h := zm zy_140 h 1 (q := (48, dset (dset (dset (dset lf 3 (0, (k : Int))) 2 (0, (c : Int))) 1 (0, (W : Int))) 0 (4, 3), [(0, (c : Int))], g)) rfl
    dsimp only at h
    exact zret zy_140 h rfl rfl
  · exact absurd hc1 (by omega)
theorem m_wdo0_0 {sv : Nat → Int32} {L n : Nat} {lf : dlf} {g : cg} {o : cg × Option cv} {W : Nat} (rW : W ≤ 5) (h : zr sv L n 243 0 lf [] g o) (hl0 : lf 0 = (4, 253)) (hl1 : lf 1 = (0, (W : Int))) (hl2 : lf 2 = (0, 0)) : ∃ lf', lf' 0 = (4, 253) ∧ lf' 1 = (0, (W : Int)) ∧ lf' 2 = (0, 0) ∧ lf' 3 = (0, 0) ∧ lf' 4 = (0, 0) ∧ zr sv L n 243 5 lf' [] g o := by
  rw [zov hl0, zov hl1, zov hl2] at h
  have h := zm zy_243 h 4 (q := (5, dset (dset (dset (dset (dset lf 2 (0, 0)) 1 (0, (W : Int))) 0 (4, 253)) 3 (0, 0)) 4 (0, 0), [], g)) rfl
  dsimp only at h
  exact ⟨_, rfl, rfl, rfl, rfl, rfl, h⟩
theorem m_wdo0_s {sv : Nat → Int32} {L n : Nat} {lf : dlf} {g : cg} {o : cg × Option cv} {W w p q t k N c : Nat} {f s b v : Int} (rW : W ≤ 5) (rw : w ≤ 5) (rp : p ≤ 5) (rq : q ≤ 4) (rt : t ≤ 7) (rk : k ≤ 15) (rN : N ≤ 16) (rc : c ≤ 15) (hN : g 254 2 = (N : Int)) (hO : OHM g k w p q t f s b) (hv : g 254 (51 + 8 * p + t) = v) (hlt : k < N) (h : zr sv L (n + 1) 243 5 lf [] g o) (hl0 : lf 0 = (4, 253)) (hl1 : lf 1 = (0, (W : Int))) (hl2 : lf 2 = (0, 0)) (hl3 : lf 3 = (0, (c : Int))) (hl4 : lf 4 = (0, (k : Int))) : ((((w : Int) ≠ (W : Int)) ∨ ((w : Int) = (W : Int) ∧ s ≠ 0) ∨ ((w : Int) = (W : Int) ∧ s = 0 ∧ v ≠ (q : Int))) ∧ (∃ lf', lf' 0 = (4, 253) ∧ lf' 1 = (0, (W : Int)) ∧ lf' 2 = (0, 0) ∧ lf' 3 = (0, (c : Int)) ∧ lf' 4 = (0, 1 + (k : Int)) ∧ zr sv L n 243 5 lf' [] g o)) ∨ (((w : Int) = (W : Int) ∧ s = 0 ∧ v = (q : Int)) ∧ (∃ lf', lf' 0 = (4, 253) ∧ lf' 1 = (0, (W : Int)) ∧ lf' 2 = (0, 0) ∧ lf' 3 = (0, 1 + (c : Int)) ∧ lf' 4 = (0, 1 + (k : Int)) ∧ zr sv L n 243 5 lf' [] g o)) := by
  rw [zov hl0, zov hl1, zov hl2, zov hl3, zov hl4] at h
  have h := zm1 zy_243 h 5 (q := (cond (crel .ge ((k : Int)) (g 254 2)) 98 16, dset (dset (dset (dset (dset lf 4 (0, (k : Int))) 3 (0, (c : Int))) 2 (0, 0)) 1 (0, (W : Int))) 0 (4, 253), [], g)) rfl
  dsimp only at h
  try rw [hN] at h
  rcases zif_ge h with ⟨hc1, h⟩ | ⟨hc1, h⟩
  · exact absurd hc1 (by omega)
  · have h := zm zy_243 h 3 (q := (20, dset (dset (dset (dset (dset lf 4 (0, (k : Int))) 3 (0, (c : Int))) 2 (0, 0)) 1 (0, (W : Int))) 0 (4, 253), [(0, (k : Int)), (4, 253), (0, (c : Int))], g)) rfl
    dsimp only at h
    obtain ⟨gz2, rz3, hk, h⟩ := zcallI zy_243 h rfl rfl zy_211 zk_211
    dsimp only at hk h
    have hO4 := h
    have h := hk
    clear hk
    have h := zm zy_211 h 3 (q := (5, darg 0 [(4, 253), (0, (k : Int))], [(0, (k : Int)), (4, 254)], g)) rfl
    dsimp only at h
    obtain ⟨gz5, rz6, hk, h⟩ := zcallI zy_211 h rfl rfl zy_199 zk_199
    dsimp only at hk h
    have hO7 := h
    have h := hk
    clear hk
    have h := zm zy_199 h 5 (q := (7, darg 0 [(0, (k : Int))], [(0, w32 (99 + (w32 (8 * ((k : Int))))))], g)) rfl
    dsimp only at h
    try rw [w32_eq (z := 8 * ((k : Int))) (v := 8 * (k : Int)) (by omega) (by omega) (by omega)] at h
    try rw [w32_eq (z := 99 + (8 * (k : Int))) (v := 99 + 8 * (k : Int)) (by omega) (by omega) (by omega)] at h
    have h := zret zy_199 h rfl rfl
    obtain ⟨e1, e2⟩ := oI h
    have h := hO7
    rw [e1, e2] at h
    clear e1 e2
    clear hO7
    have h := zald zy_211 h rfl rfl (dvb_254 (i := 99 + 8 * (k : Int)) (by omega) (by omega))
    dsimp only at h
    try rw [show (99 + 8 * (k : Int)).toNat = 99 + 8 * k from by omega] at h
    try rw [hO.1] at h
    have h := zret zy_211 h rfl rfl
    obtain ⟨e1, e2⟩ := oI h
    have h := hO4
    rw [e1, e2] at h
    clear e1 e2
    clear hO4
    have h := zm zy_243 h 2 (q := (cond (crel .ne ((w : Int)) ((W : Int))) 89 27, dset (dset (dset (dset (dset lf 4 (0, (k : Int))) 3 (0, (c : Int))) 2 (0, 0)) 1 (0, (W : Int))) 0 (4, 253), [(0, (c : Int))], g)) rfl
    dsimp only at h
    rcases zif_ne h with ⟨hc8, h⟩ | ⟨hc8, h⟩
    · have h := zm zy_243 h 5 (q := (5, dset (dset (dset (dset (dset (dset (dset lf 4 (0, (k : Int))) 3 (0, (c : Int))) 2 (0, 0)) 1 (0, (W : Int))) 0 (4, 253)) 3 (0, w32 (((c : Int)) + 0))) 4 (0, w32 (((k : Int)) + 1)), [], g)) rfl
      dsimp only at h
      try rw [w32_eq (z := ((c : Int)) + 0) (v := (c : Int)) (by omega) (by omega) (by omega)] at h
      try rw [w32_eq (z := ((k : Int)) + 1) (v := 1 + (k : Int)) (by omega) (by omega) (by omega)] at h
      refine Or.inl (⟨Or.inl (hc8), ?_⟩)
      exact ⟨_, rfl, rfl, rfl, rfl, rfl, h⟩
    · have h := zm zy_243 h 4 (q := (34, dset (dset (dset (dset (dset lf 4 (0, (k : Int))) 3 (0, (c : Int))) 2 (0, 0)) 1 (0, (W : Int))) 0 (4, 253), [(0, (k : Int)), (4, 253), (0, (c : Int))], g)) rfl
      dsimp only at h
      obtain ⟨gz10, rz11, hk, h⟩ := zcallI zy_243 h rfl rfl zy_201 zk_201
      dsimp only at hk h
      have hO12 := h
      have h := hk
      clear hk
      have h := zm zy_201 h 3 (q := (5, darg 0 [(4, 253), (0, (k : Int))], [(0, (k : Int)), (4, 254)], g)) rfl
      dsimp only at h
      obtain ⟨gz13, rz14, hk, h⟩ := zcallI zy_201 h rfl rfl zy_199 zk_199
      dsimp only at hk h
      have hO15 := h
      have h := hk
      clear hk
      have h := zm zy_199 h 5 (q := (7, darg 0 [(0, (k : Int))], [(0, w32 (99 + (w32 (8 * ((k : Int))))))], g)) rfl
      dsimp only at h
      try rw [w32_eq (z := 8 * ((k : Int))) (v := 8 * (k : Int)) (by omega) (by omega) (by omega)] at h
      try rw [w32_eq (z := 99 + (8 * (k : Int))) (v := 99 + 8 * (k : Int)) (by omega) (by omega) (by omega)] at h
      have h := zret zy_199 h rfl rfl
      obtain ⟨e1, e2⟩ := oI h
      have h := hO15
      rw [e1, e2] at h
      clear e1 e2
      clear hO15
      have h := zm zy_201 h 2 (q := (10, darg 0 [(4, 253), (0, (k : Int))], [(0, w32 ((99 + 8 * (k : Int)) + 5)), (4, 254)], g)) rfl
      dsimp only at h
      try rw [w32_eq (z := (99 + 8 * (k : Int)) + 5) (v := 104 + 8 * (k : Int)) (by omega) (by omega) (by omega)] at h
      have h := zald zy_201 h rfl rfl (dvb_254 (i := 104 + 8 * (k : Int)) (by omega) (by omega))
      dsimp only at h
      try rw [show (104 + 8 * (k : Int)).toNat = 104 + 8 * k from by omega] at h
      try rw [hO.2.2.2.2.2.1] at h
      have h := zm zy_201 h 1 (q := (cond (crel .ne s 0) 18 14, darg 0 [(4, 253), (0, (k : Int))], [], g)) rfl
      dsimp only at h
      rcases zif_ne h with ⟨hc16, h⟩ | ⟨hc16, h⟩
      · have h := zm zy_201 h 1 (q := (19, darg 0 [(4, 253), (0, (k : Int))], [(0, 0)], g)) rfl
        dsimp only at h
        have h := zret zy_201 h rfl rfl
        obtain ⟨e1, e2⟩ := oI h
        have h := hO12
        rw [e1, e2] at h
        clear e1 e2
        clear hO12
        have h := zm zy_243 h 6 (q := (5, dset (dset (dset (dset (dset (dset (dset lf 4 (0, (k : Int))) 3 (0, (c : Int))) 2 (0, 0)) 1 (0, (W : Int))) 0 (4, 253)) 3 (0, w32 (((c : Int)) + 0))) 4 (0, w32 (((k : Int)) + 1)), [], g)) rfl
        dsimp only at h
        try rw [w32_eq (z := ((c : Int)) + 0) (v := (c : Int)) (by omega) (by omega) (by omega)] at h
        try rw [w32_eq (z := ((k : Int)) + 1) (v := 1 + (k : Int)) (by omega) (by omega) (by omega)] at h
        refine Or.inl (⟨Or.inr (Or.inl (⟨hc8, hc16⟩)), ?_⟩)
        exact ⟨_, rfl, rfl, rfl, rfl, rfl, h⟩
      · have h := zm zy_201 h 2 (q := (19, darg 0 [(4, 253), (0, (k : Int))], [(0, 1)], g)) rfl
        dsimp only at h
        have h := zret zy_201 h rfl rfl
        obtain ⟨e1, e2⟩ := oI h
        have h := hO12
        rw [e1, e2] at h
        clear e1 e2
        clear hO12
        have h := zm zy_243 h 3 (q := (43, dset (dset (dset (dset (dset lf 4 (0, (k : Int))) 3 (0, (c : Int))) 2 (0, 0)) 1 (0, (W : Int))) 0 (4, 253), [(0, (k : Int)), (4, 253), (0, (c : Int))], g)) rfl
        dsimp only at h
        obtain ⟨gz18, rz19, hk, h⟩ := zcallI zy_243 h rfl rfl zy_202 zk_202
        dsimp only at hk h
        have hO20 := h
        have h := hk
        clear hk
        have h := zm zy_202 h 3 (q := (3, darg 0 [(4, 253), (0, (k : Int))], [(0, (k : Int)), (4, 253), (4, 253)], g)) rfl
        dsimp only at h
        obtain ⟨gz21, rz22, hk, h⟩ := zcallI zy_202 h rfl rfl zy_203 zk_203
        dsimp only at hk h
        have hO23 := h
        have h := hk
        clear hk
        have h := zm zy_203 h 3 (q := (5, darg 0 [(4, 253), (0, (k : Int))], [(0, (k : Int)), (4, 254)], g)) rfl
        dsimp only at h
        obtain ⟨gz24, rz25, hk, h⟩ := zcallI zy_203 h rfl rfl zy_199 zk_199
        dsimp only at hk h
        have hO26 := h
        have h := hk
        clear hk
        have h := zm zy_199 h 5 (q := (7, darg 0 [(0, (k : Int))], [(0, w32 (99 + (w32 (8 * ((k : Int))))))], g)) rfl
        dsimp only at h
        try rw [w32_eq (z := 8 * ((k : Int))) (v := 8 * (k : Int)) (by omega) (by omega) (by omega)] at h
        try rw [w32_eq (z := 99 + (8 * (k : Int))) (v := 99 + 8 * (k : Int)) (by omega) (by omega) (by omega)] at h
        have h := zret zy_199 h rfl rfl
        obtain ⟨e1, e2⟩ := oI h
        have h := hO26
        rw [e1, e2] at h
        clear e1 e2
        clear hO26
        have h := zm zy_203 h 2 (q := (10, darg 0 [(4, 253), (0, (k : Int))], [(0, w32 ((99 + 8 * (k : Int)) + 1)), (4, 254)], g)) rfl
        dsimp only at h
        try rw [w32_eq (z := (99 + 8 * (k : Int)) + 1) (v := 100 + 8 * (k : Int)) (by omega) (by omega) (by omega)] at h
        have h := zald zy_203 h rfl rfl (dvb_254 (i := 100 + 8 * (k : Int)) (by omega) (by omega))
        dsimp only at h
        try rw [show (100 + 8 * (k : Int)).toNat = 100 + 8 * k from by omega] at h
        try rw [hO.2.1] at h
        have h := zret zy_203 h rfl rfl
        obtain ⟨e1, e2⟩ := oI h
        have h := hO23
        rw [e1, e2] at h
        clear e1 e2
        clear hO23
        have h := zm zy_202 h 2 (q := (8, darg 0 [(4, 253), (0, (k : Int))], [(0, (k : Int)), (4, 253), (0, (p : Int)), (4, 253)], g)) rfl
        dsimp only at h
        obtain ⟨gz27, rz28, hk, h⟩ := zcallI zy_202 h rfl rfl zy_204 zk_204
        dsimp only at hk h
        have hO29 := h
        have h := hk
        clear hk
        have h := zm zy_204 h 3 (q := (5, darg 0 [(4, 253), (0, (k : Int))], [(0, (k : Int)), (4, 254)], g)) rfl
        dsimp only at h
        obtain ⟨gz30, rz31, hk, h⟩ := zcallI zy_204 h rfl rfl zy_199 zk_199
        dsimp only at hk h
        have hO32 := h
        have h := hk
        clear hk
        have h := zm zy_199 h 5 (q := (7, darg 0 [(0, (k : Int))], [(0, w32 (99 + (w32 (8 * ((k : Int))))))], g)) rfl
        dsimp only at h
        try rw [w32_eq (z := 8 * ((k : Int))) (v := 8 * (k : Int)) (by omega) (by omega) (by omega)] at h
        try rw [w32_eq (z := 99 + (8 * (k : Int))) (v := 99 + 8 * (k : Int)) (by omega) (by omega) (by omega)] at h
        have h := zret zy_199 h rfl rfl
        obtain ⟨e1, e2⟩ := oI h
        have h := hO32
        rw [e1, e2] at h
        clear e1 e2
        clear hO32
        have h := zm zy_204 h 2 (q := (10, darg 0 [(4, 253), (0, (k : Int))], [(0, w32 ((99 + 8 * (k : Int)) + 3)), (4, 254)], g)) rfl
        dsimp only at h
        try rw [w32_eq (z := (99 + 8 * (k : Int)) + 3) (v := 102 + 8 * (k : Int)) (by omega) (by omega) (by omega)] at h
        have h := zald zy_204 h rfl rfl (dvb_254 (i := 102 + 8 * (k : Int)) (by omega) (by omega))
        dsimp only at h
        try rw [show (102 + 8 * (k : Int)).toNat = 102 + 8 * k from by omega] at h
        try rw [hO.2.2.2.1] at h
        have h := zret zy_204 h rfl rfl
        obtain ⟨e1, e2⟩ := oI h
        have h := hO29
        rw [e1, e2] at h
        clear e1 e2
        clear hO29
        obtain ⟨gz33, rz34, hk, h⟩ := zcallI zy_202 h rfl rfl zy_205 zk_205
        dsimp only at hk h
        have hO35 := h
        have h := hk
        clear hk
        have h := zm zy_205 h 9 (q := (13, darg 0 [(4, 253), (0, (p : Int)), (0, (t : Int))], [(0, w32 ((w32 (51 + (w32 (8 * ((p : Int)))))) + ((t : Int)))), (4, 254)], g)) rfl
        dsimp only at h
        try rw [w32_eq (z := 8 * ((p : Int))) (v := 8 * (p : Int)) (by omega) (by omega) (by omega)] at h
        try rw [w32_eq (z := 51 + (8 * (p : Int))) (v := 51 + 8 * (p : Int)) (by omega) (by omega) (by omega)] at h
        try rw [w32_eq (z := (51 + 8 * (p : Int)) + ((t : Int))) (v := 51 + 8 * (p : Int) + (t : Int)) (by omega) (by omega) (by omega)] at h
        have h := zald zy_205 h rfl rfl (dvb_254 (i := 51 + 8 * (p : Int) + (t : Int)) (by omega) (by omega))
        dsimp only at h
        try rw [show (51 + 8 * (p : Int) + (t : Int)).toNat = 51 + 8 * p + t from by omega] at h
        try rw [hv] at h
        have h := zret zy_205 h rfl rfl
        obtain ⟨e1, e2⟩ := oI h
        have h := hO35
        rw [e1, e2] at h
        clear e1 e2
        clear hO35
        have h := zm zy_202 h 2 (q := (16, darg 0 [(4, 253), (0, (k : Int))], [(0, (k : Int)), (4, 253), (0, v)], g)) rfl
        dsimp only at h
        obtain ⟨gz36, rz37, hk, h⟩ := zcallI zy_202 h rfl rfl zy_206 zk_206
        dsimp only at hk h
        have hO38 := h
        have h := hk
        clear hk
        have h := zm zy_206 h 3 (q := (5, darg 0 [(4, 253), (0, (k : Int))], [(0, (k : Int)), (4, 254)], g)) rfl
        dsimp only at h
        obtain ⟨gz39, rz40, hk, h⟩ := zcallI zy_206 h rfl rfl zy_199 zk_199
        dsimp only at hk h
        have hO41 := h
        have h := hk
        clear hk
        have h := zm zy_199 h 5 (q := (7, darg 0 [(0, (k : Int))], [(0, w32 (99 + (w32 (8 * ((k : Int))))))], g)) rfl
        dsimp only at h
        try rw [w32_eq (z := 8 * ((k : Int))) (v := 8 * (k : Int)) (by omega) (by omega) (by omega)] at h
        try rw [w32_eq (z := 99 + (8 * (k : Int))) (v := 99 + 8 * (k : Int)) (by omega) (by omega) (by omega)] at h
        have h := zret zy_199 h rfl rfl
        obtain ⟨e1, e2⟩ := oI h
        have h := hO41
        rw [e1, e2] at h
        clear e1 e2
        clear hO41
        have h := zm zy_206 h 2 (q := (10, darg 0 [(4, 253), (0, (k : Int))], [(0, w32 ((99 + 8 * (k : Int)) + 2)), (4, 254)], g)) rfl
        dsimp only at h
        try rw [w32_eq (z := (99 + 8 * (k : Int)) + 2) (v := 101 + 8 * (k : Int)) (by omega) (by omega) (by omega)] at h
        have h := zald zy_206 h rfl rfl (dvb_254 (i := 101 + 8 * (k : Int)) (by omega) (by omega))
        dsimp only at h
        try rw [show (101 + 8 * (k : Int)).toNat = 101 + 8 * k from by omega] at h
        try rw [hO.2.2.1] at h
        have h := zret zy_206 h rfl rfl
        obtain ⟨e1, e2⟩ := oI h
        have h := hO38
        rw [e1, e2] at h
        clear e1 e2
        clear hO38
        have h := zm zy_202 h 1 (q := (cond (crel .ne v ((q : Int))) 26 22, darg 0 [(4, 253), (0, (k : Int))], [], g)) rfl
        dsimp only at h
        rcases zif_ne h with ⟨hc42, h⟩ | ⟨hc42, h⟩
        · have h := zm zy_202 h 1 (q := (27, darg 0 [(4, 253), (0, (k : Int))], [(0, 0)], g)) rfl
          dsimp only at h
          have h := zret zy_202 h rfl rfl
          obtain ⟨e1, e2⟩ := oI h
          have h := hO20
          rw [e1, e2] at h
          clear e1 e2
          clear hO20
          have h := zm zy_243 h 6 (q := (5, dset (dset (dset (dset (dset (dset (dset lf 4 (0, (k : Int))) 3 (0, (c : Int))) 2 (0, 0)) 1 (0, (W : Int))) 0 (4, 253)) 3 (0, w32 (((c : Int)) + 0))) 4 (0, w32 (((k : Int)) + 1)), [], g)) rfl
          dsimp only at h
          try rw [w32_eq (z := ((c : Int)) + 0) (v := (c : Int)) (by omega) (by omega) (by omega)] at h
          try rw [w32_eq (z := ((k : Int)) + 1) (v := 1 + (k : Int)) (by omega) (by omega) (by omega)] at h
          refine Or.inl (⟨Or.inr (Or.inr (⟨hc8, hc16, hc42⟩)), ?_⟩)
          exact ⟨_, rfl, rfl, rfl, rfl, rfl, h⟩
        · have h := zm zy_202 h 2 (q := (27, darg 0 [(4, 253), (0, (k : Int))], [(0, 1)], g)) rfl
          dsimp only at h
          have h := zret zy_202 h rfl rfl
          obtain ⟨e1, e2⟩ := oI h
          have h := hO20
          rw [e1, e2] at h
          clear e1 e2
          clear hO20
          have h := zm zy_243 h 8 (q := (5, dset (dset (dset (dset (dset (dset (dset lf 4 (0, (k : Int))) 3 (0, (c : Int))) 2 (0, 0)) 1 (0, (W : Int))) 0 (4, 253)) 3 (0, w32 (((c : Int)) + 1))) 4 (0, w32 (((k : Int)) + 1)), [], g)) rfl
          dsimp only at h
          try rw [w32_eq (z := ((c : Int)) + 1) (v := 1 + (c : Int)) (by omega) (by omega) (by omega)] at h
          try rw [w32_eq (z := ((k : Int)) + 1) (v := 1 + (k : Int)) (by omega) (by omega) (by omega)] at h
          refine Or.inr (⟨⟨hc8, hc16, hc42⟩, ?_⟩)
          exact ⟨_, rfl, rfl, rfl, rfl, rfl, h⟩
theorem m_wdo0_e {sv : Nat → Int32} {L n : Nat} {lf : dlf} {g : cg} {o : cg × Option cv} {W k N c : Nat} (rW : W ≤ 5) (rk : k ≤ 16) (rN : N ≤ 16) (rc : c ≤ 16) (hN : g 254 2 = (N : Int)) (hge : N ≤ k) (h : zr sv L (n + 1) 243 5 lf [] g o) (hl0 : lf 0 = (4, 253)) (hl1 : lf 1 = (0, (W : Int))) (hl2 : lf 2 = (0, 0)) (hl3 : lf 3 = (0, (c : Int))) (hl4 : lf 4 = (0, (k : Int))) : o = (g, some (0, (c : Int))) := by
  rw [zov hl0, zov hl1, zov hl2, zov hl3, zov hl4] at h
  have h := zm1 zy_243 h 5 (q := (cond (crel .ge ((k : Int)) (g 254 2)) 98 16, dset (dset (dset (dset (dset lf 4 (0, (k : Int))) 3 (0, (c : Int))) 2 (0, 0)) 1 (0, (W : Int))) 0 (4, 253), [], g)) rfl
  dsimp only at h
  try rw [hN] at h
  rcases zif_ge h with ⟨hc1, h⟩ | ⟨hc1, h⟩
  · have h := zm zy_243 h 1 (q := (99, dset (dset (dset (dset (dset lf 4 (0, (k : Int))) 3 (0, (c : Int))) 2 (0, 0)) 1 (0, (W : Int))) 0 (4, 253), [(0, (c : Int))], g)) rfl
    dsimp only at h
    exact zret zy_243 h rfl rfl
  · exact absurd hc1 (by omega)
theorem m_wdo0_1 {sv : Nat → Int32} {L n : Nat} {lf : dlf} {g : cg} {o : cg × Option cv} {W : Nat} (rW : W ≤ 5) (h : zr sv L n 243 0 lf [] g o) (hl0 : lf 0 = (4, 253)) (hl1 : lf 1 = (0, (W : Int))) (hl2 : lf 2 = (0, 1)) : ∃ lf', lf' 0 = (4, 253) ∧ lf' 1 = (0, (W : Int)) ∧ lf' 2 = (0, 1) ∧ lf' 3 = (0, 0) ∧ lf' 4 = (0, 0) ∧ zr sv L n 243 5 lf' [] g o := by
  rw [zov hl0, zov hl1, zov hl2] at h
  have h := zm zy_243 h 4 (q := (5, dset (dset (dset (dset (dset lf 2 (0, 1)) 1 (0, (W : Int))) 0 (4, 253)) 3 (0, 0)) 4 (0, 0), [], g)) rfl
  dsimp only at h
  exact ⟨_, rfl, rfl, rfl, rfl, rfl, h⟩
theorem m_wdo1_s {sv : Nat → Int32} {L n : Nat} {lf : dlf} {g : cg} {o : cg × Option cv} {W w p q t k N c : Nat} {f s b v : Int} (rW : W ≤ 5) (rw : w ≤ 5) (rp : p ≤ 5) (rq : q ≤ 4) (rt : t ≤ 7) (rk : k ≤ 15) (rN : N ≤ 16) (rc : c ≤ 15) (hN : g 254 2 = (N : Int)) (hO : OHM g k w p q t f s b) (hv : g 254 (51 + 8 * p + t) = v) (hlt : k < N) (h : zr sv L (n + 1) 243 5 lf [] g o) (hl0 : lf 0 = (4, 253)) (hl1 : lf 1 = (0, (W : Int))) (hl2 : lf 2 = (0, 1)) (hl3 : lf 3 = (0, (c : Int))) (hl4 : lf 4 = (0, (k : Int))) : ((((w : Int) ≠ (W : Int)) ∨ ((w : Int) = (W : Int) ∧ s ≠ 0) ∨ ((w : Int) = (W : Int) ∧ s = 0 ∧ v = (q : Int))) ∧ (∃ lf', lf' 0 = (4, 253) ∧ lf' 1 = (0, (W : Int)) ∧ lf' 2 = (0, 1) ∧ lf' 3 = (0, (c : Int)) ∧ lf' 4 = (0, 1 + (k : Int)) ∧ zr sv L n 243 5 lf' [] g o)) ∨ (((w : Int) = (W : Int) ∧ s = 0 ∧ v ≠ (q : Int)) ∧ (∃ lf', lf' 0 = (4, 253) ∧ lf' 1 = (0, (W : Int)) ∧ lf' 2 = (0, 1) ∧ lf' 3 = (0, 1 + (c : Int)) ∧ lf' 4 = (0, 1 + (k : Int)) ∧ zr sv L n 243 5 lf' [] g o)) := by
  rw [zov hl0, zov hl1, zov hl2, zov hl3, zov hl4] at h
  have h := zm1 zy_243 h 5 (q := (cond (crel .ge ((k : Int)) (g 254 2)) 98 16, dset (dset (dset (dset (dset lf 4 (0, (k : Int))) 3 (0, (c : Int))) 2 (0, 1)) 1 (0, (W : Int))) 0 (4, 253), [], g)) rfl
  dsimp only at h
  try rw [hN] at h
  rcases zif_ge h with ⟨hc1, h⟩ | ⟨hc1, h⟩
  · exact absurd hc1 (by omega)
  · have h := zm zy_243 h 3 (q := (20, dset (dset (dset (dset (dset lf 4 (0, (k : Int))) 3 (0, (c : Int))) 2 (0, 1)) 1 (0, (W : Int))) 0 (4, 253), [(0, (k : Int)), (4, 253), (0, (c : Int))], g)) rfl
    dsimp only at h
    obtain ⟨gz2, rz3, hk, h⟩ := zcallI zy_243 h rfl rfl zy_211 zk_211
    dsimp only at hk h
    have hO4 := h
    have h := hk
    clear hk
    have h := zm zy_211 h 3 (q := (5, darg 0 [(4, 253), (0, (k : Int))], [(0, (k : Int)), (4, 254)], g)) rfl
    dsimp only at h
    obtain ⟨gz5, rz6, hk, h⟩ := zcallI zy_211 h rfl rfl zy_199 zk_199
    dsimp only at hk h
    have hO7 := h
    have h := hk
    clear hk
    have h := zm zy_199 h 5 (q := (7, darg 0 [(0, (k : Int))], [(0, w32 (99 + (w32 (8 * ((k : Int))))))], g)) rfl
    dsimp only at h
    try rw [w32_eq (z := 8 * ((k : Int))) (v := 8 * (k : Int)) (by omega) (by omega) (by omega)] at h
    try rw [w32_eq (z := 99 + (8 * (k : Int))) (v := 99 + 8 * (k : Int)) (by omega) (by omega) (by omega)] at h
    have h := zret zy_199 h rfl rfl
    obtain ⟨e1, e2⟩ := oI h
    have h := hO7
    rw [e1, e2] at h
    clear e1 e2
    clear hO7
    have h := zald zy_211 h rfl rfl (dvb_254 (i := 99 + 8 * (k : Int)) (by omega) (by omega))
    dsimp only at h
    try rw [show (99 + 8 * (k : Int)).toNat = 99 + 8 * k from by omega] at h
    try rw [hO.1] at h
    have h := zret zy_211 h rfl rfl
    obtain ⟨e1, e2⟩ := oI h
    have h := hO4
    rw [e1, e2] at h
    clear e1 e2
    clear hO4
    have h := zm zy_243 h 2 (q := (cond (crel .ne ((w : Int)) ((W : Int))) 89 27, dset (dset (dset (dset (dset lf 4 (0, (k : Int))) 3 (0, (c : Int))) 2 (0, 1)) 1 (0, (W : Int))) 0 (4, 253), [(0, (c : Int))], g)) rfl
    dsimp only at h
    rcases zif_ne h with ⟨hc8, h⟩ | ⟨hc8, h⟩
    · have h := zm zy_243 h 5 (q := (5, dset (dset (dset (dset (dset (dset (dset lf 4 (0, (k : Int))) 3 (0, (c : Int))) 2 (0, 1)) 1 (0, (W : Int))) 0 (4, 253)) 3 (0, w32 (((c : Int)) + 0))) 4 (0, w32 (((k : Int)) + 1)), [], g)) rfl
      dsimp only at h
      try rw [w32_eq (z := ((c : Int)) + 0) (v := (c : Int)) (by omega) (by omega) (by omega)] at h
      try rw [w32_eq (z := ((k : Int)) + 1) (v := 1 + (k : Int)) (by omega) (by omega) (by omega)] at h
      refine Or.inl (⟨Or.inl (hc8), ?_⟩)
      exact ⟨_, rfl, rfl, rfl, rfl, rfl, h⟩
    · have h := zm zy_243 h 7 (q := (60, dset (dset (dset (dset (dset lf 4 (0, (k : Int))) 3 (0, (c : Int))) 2 (0, 1)) 1 (0, (W : Int))) 0 (4, 253), [(0, (k : Int)), (4, 253), (0, (c : Int))], g)) rfl
      dsimp only at h
      obtain ⟨gz10, rz11, hk, h⟩ := zcallI zy_243 h rfl rfl zy_200 zk_200
      dsimp only at hk h
      have hO12 := h
      have h := hk
      clear hk
      have h := zm zy_200 h 2 (q := (2, darg 0 [(4, 253), (0, (k : Int))], [(0, (k : Int)), (4, 253)], g)) rfl
      dsimp only at h
      obtain ⟨gz13, rz14, hk, h⟩ := zcallI zy_200 h rfl rfl zy_201 zk_201
      dsimp only at hk h
      have hO15 := h
      have h := hk
      clear hk
      have h := zm zy_201 h 3 (q := (5, darg 0 [(4, 253), (0, (k : Int))], [(0, (k : Int)), (4, 254)], g)) rfl
      dsimp only at h
      obtain ⟨gz16, rz17, hk, h⟩ := zcallI zy_201 h rfl rfl zy_199 zk_199
      dsimp only at hk h
      have hO18 := h
      have h := hk
      clear hk
      have h := zm zy_199 h 5 (q := (7, darg 0 [(0, (k : Int))], [(0, w32 (99 + (w32 (8 * ((k : Int))))))], g)) rfl
      dsimp only at h
      try rw [w32_eq (z := 8 * ((k : Int))) (v := 8 * (k : Int)) (by omega) (by omega) (by omega)] at h
      try rw [w32_eq (z := 99 + (8 * (k : Int))) (v := 99 + 8 * (k : Int)) (by omega) (by omega) (by omega)] at h
      have h := zret zy_199 h rfl rfl
      obtain ⟨e1, e2⟩ := oI h
      have h := hO18
      rw [e1, e2] at h
      clear e1 e2
      clear hO18
      have h := zm zy_201 h 2 (q := (10, darg 0 [(4, 253), (0, (k : Int))], [(0, w32 ((99 + 8 * (k : Int)) + 5)), (4, 254)], g)) rfl
      dsimp only at h
      try rw [w32_eq (z := (99 + 8 * (k : Int)) + 5) (v := 104 + 8 * (k : Int)) (by omega) (by omega) (by omega)] at h
      have h := zald zy_201 h rfl rfl (dvb_254 (i := 104 + 8 * (k : Int)) (by omega) (by omega))
      dsimp only at h
      try rw [show (104 + 8 * (k : Int)).toNat = 104 + 8 * k from by omega] at h
      try rw [hO.2.2.2.2.2.1] at h
      have h := zm zy_201 h 1 (q := (cond (crel .ne s 0) 18 14, darg 0 [(4, 253), (0, (k : Int))], [], g)) rfl
      dsimp only at h
      rcases zif_ne h with ⟨hc19, h⟩ | ⟨hc19, h⟩
      · have h := zm zy_201 h 1 (q := (19, darg 0 [(4, 253), (0, (k : Int))], [(0, 0)], g)) rfl
        dsimp only at h
        have h := zret zy_201 h rfl rfl
        obtain ⟨e1, e2⟩ := oI h
        have h := hO15
        rw [e1, e2] at h
        clear e1 e2
        clear hO15
        have h := zm zy_200 h 2 (q := (21, darg 0 [(4, 253), (0, (k : Int))], [(0, 0)], g)) rfl
        dsimp only at h
        have h := zret zy_200 h rfl rfl
        obtain ⟨e1, e2⟩ := oI h
        have h := hO12
        rw [e1, e2] at h
        clear e1 e2
        clear hO12
        have h := zm zy_243 h 6 (q := (5, dset (dset (dset (dset (dset (dset (dset lf 4 (0, (k : Int))) 3 (0, (c : Int))) 2 (0, 1)) 1 (0, (W : Int))) 0 (4, 253)) 3 (0, w32 (((c : Int)) + 0))) 4 (0, w32 (((k : Int)) + 1)), [], g)) rfl
        dsimp only at h
        try rw [w32_eq (z := ((c : Int)) + 0) (v := (c : Int)) (by omega) (by omega) (by omega)] at h
        try rw [w32_eq (z := ((k : Int)) + 1) (v := 1 + (k : Int)) (by omega) (by omega) (by omega)] at h
        refine Or.inl (⟨Or.inr (Or.inl (⟨hc8, hc19⟩)), ?_⟩)
        exact ⟨_, rfl, rfl, rfl, rfl, rfl, h⟩
      · have h := zm zy_201 h 2 (q := (19, darg 0 [(4, 253), (0, (k : Int))], [(0, 1)], g)) rfl
        dsimp only at h
        have h := zret zy_201 h rfl rfl
        obtain ⟨e1, e2⟩ := oI h
        have h := hO15
        rw [e1, e2] at h
        clear e1 e2
        clear hO15
        have h := zm zy_200 h 3 (q := (10, darg 0 [(4, 253), (0, (k : Int))], [(0, (k : Int)), (4, 253)], g)) rfl
        dsimp only at h
        obtain ⟨gz21, rz22, hk, h⟩ := zcallI zy_200 h rfl rfl zy_202 zk_202
        dsimp only at hk h
        have hO23 := h
        have h := hk
        clear hk
        have h := zm zy_202 h 3 (q := (3, darg 0 [(4, 253), (0, (k : Int))], [(0, (k : Int)), (4, 253), (4, 253)], g)) rfl
        dsimp only at h
        obtain ⟨gz24, rz25, hk, h⟩ := zcallI zy_202 h rfl rfl zy_203 zk_203
        dsimp only at hk h
        have hO26 := h
        have h := hk
        clear hk
        have h := zm zy_203 h 3 (q := (5, darg 0 [(4, 253), (0, (k : Int))], [(0, (k : Int)), (4, 254)], g)) rfl
        dsimp only at h
        obtain ⟨gz27, rz28, hk, h⟩ := zcallI zy_203 h rfl rfl zy_199 zk_199
        dsimp only at hk h
        have hO29 := h
        have h := hk
        clear hk
        have h := zm zy_199 h 5 (q := (7, darg 0 [(0, (k : Int))], [(0, w32 (99 + (w32 (8 * ((k : Int))))))], g)) rfl
        dsimp only at h
        try rw [w32_eq (z := 8 * ((k : Int))) (v := 8 * (k : Int)) (by omega) (by omega) (by omega)] at h
        try rw [w32_eq (z := 99 + (8 * (k : Int))) (v := 99 + 8 * (k : Int)) (by omega) (by omega) (by omega)] at h
        have h := zret zy_199 h rfl rfl
        obtain ⟨e1, e2⟩ := oI h
        have h := hO29
        rw [e1, e2] at h
        clear e1 e2
        clear hO29
        have h := zm zy_203 h 2 (q := (10, darg 0 [(4, 253), (0, (k : Int))], [(0, w32 ((99 + 8 * (k : Int)) + 1)), (4, 254)], g)) rfl
        dsimp only at h
        try rw [w32_eq (z := (99 + 8 * (k : Int)) + 1) (v := 100 + 8 * (k : Int)) (by omega) (by omega) (by omega)] at h
        have h := zald zy_203 h rfl rfl (dvb_254 (i := 100 + 8 * (k : Int)) (by omega) (by omega))
        dsimp only at h
        try rw [show (100 + 8 * (k : Int)).toNat = 100 + 8 * k from by omega] at h
        try rw [hO.2.1] at h
        have h := zret zy_203 h rfl rfl
        obtain ⟨e1, e2⟩ := oI h
        have h := hO26
        rw [e1, e2] at h
        clear e1 e2
        clear hO26
        have h := zm zy_202 h 2 (q := (8, darg 0 [(4, 253), (0, (k : Int))], [(0, (k : Int)), (4, 253), (0, (p : Int)), (4, 253)], g)) rfl
        dsimp only at h
        obtain ⟨gz30, rz31, hk, h⟩ := zcallI zy_202 h rfl rfl zy_204 zk_204
        dsimp only at hk h
        have hO32 := h
        have h := hk
        clear hk
        have h := zm zy_204 h 3 (q := (5, darg 0 [(4, 253), (0, (k : Int))], [(0, (k : Int)), (4, 254)], g)) rfl
        dsimp only at h
        obtain ⟨gz33, rz34, hk, h⟩ := zcallI zy_204 h rfl rfl zy_199 zk_199
        dsimp only at hk h
        have hO35 := h
        have h := hk
        clear hk
        have h := zm zy_199 h 5 (q := (7, darg 0 [(0, (k : Int))], [(0, w32 (99 + (w32 (8 * ((k : Int))))))], g)) rfl
        dsimp only at h
        try rw [w32_eq (z := 8 * ((k : Int))) (v := 8 * (k : Int)) (by omega) (by omega) (by omega)] at h
        try rw [w32_eq (z := 99 + (8 * (k : Int))) (v := 99 + 8 * (k : Int)) (by omega) (by omega) (by omega)] at h
        have h := zret zy_199 h rfl rfl
        obtain ⟨e1, e2⟩ := oI h
        have h := hO35
        rw [e1, e2] at h
        clear e1 e2
        clear hO35
        have h := zm zy_204 h 2 (q := (10, darg 0 [(4, 253), (0, (k : Int))], [(0, w32 ((99 + 8 * (k : Int)) + 3)), (4, 254)], g)) rfl
        dsimp only at h
        try rw [w32_eq (z := (99 + 8 * (k : Int)) + 3) (v := 102 + 8 * (k : Int)) (by omega) (by omega) (by omega)] at h
        have h := zald zy_204 h rfl rfl (dvb_254 (i := 102 + 8 * (k : Int)) (by omega) (by omega))
        dsimp only at h
        try rw [show (102 + 8 * (k : Int)).toNat = 102 + 8 * k from by omega] at h
        try rw [hO.2.2.2.1] at h
        have h := zret zy_204 h rfl rfl
        obtain ⟨e1, e2⟩ := oI h
        have h := hO32
        rw [e1, e2] at h
        clear e1 e2
        clear hO32
        obtain ⟨gz36, rz37, hk, h⟩ := zcallI zy_202 h rfl rfl zy_205 zk_205
        dsimp only at hk h
        have hO38 := h
        have h := hk
        clear hk
        have h := zm zy_205 h 9 (q := (13, darg 0 [(4, 253), (0, (p : Int)), (0, (t : Int))], [(0, w32 ((w32 (51 + (w32 (8 * ((p : Int)))))) + ((t : Int)))), (4, 254)], g)) rfl
        dsimp only at h
        try rw [w32_eq (z := 8 * ((p : Int))) (v := 8 * (p : Int)) (by omega) (by omega) (by omega)] at h
        try rw [w32_eq (z := 51 + (8 * (p : Int))) (v := 51 + 8 * (p : Int)) (by omega) (by omega) (by omega)] at h
        try rw [w32_eq (z := (51 + 8 * (p : Int)) + ((t : Int))) (v := 51 + 8 * (p : Int) + (t : Int)) (by omega) (by omega) (by omega)] at h
        have h := zald zy_205 h rfl rfl (dvb_254 (i := 51 + 8 * (p : Int) + (t : Int)) (by omega) (by omega))
        dsimp only at h
        try rw [show (51 + 8 * (p : Int) + (t : Int)).toNat = 51 + 8 * p + t from by omega] at h
        try rw [hv] at h
        have h := zret zy_205 h rfl rfl
        obtain ⟨e1, e2⟩ := oI h
        have h := hO38
        rw [e1, e2] at h
        clear e1 e2
        clear hO38
        have h := zm zy_202 h 2 (q := (16, darg 0 [(4, 253), (0, (k : Int))], [(0, (k : Int)), (4, 253), (0, v)], g)) rfl
        dsimp only at h
        obtain ⟨gz39, rz40, hk, h⟩ := zcallI zy_202 h rfl rfl zy_206 zk_206
        dsimp only at hk h
        have hO41 := h
        have h := hk
        clear hk
        have h := zm zy_206 h 3 (q := (5, darg 0 [(4, 253), (0, (k : Int))], [(0, (k : Int)), (4, 254)], g)) rfl
        dsimp only at h
        obtain ⟨gz42, rz43, hk, h⟩ := zcallI zy_206 h rfl rfl zy_199 zk_199
        dsimp only at hk h
        have hO44 := h
        have h := hk
        clear hk
        have h := zm zy_199 h 5 (q := (7, darg 0 [(0, (k : Int))], [(0, w32 (99 + (w32 (8 * ((k : Int))))))], g)) rfl
        dsimp only at h
        try rw [w32_eq (z := 8 * ((k : Int))) (v := 8 * (k : Int)) (by omega) (by omega) (by omega)] at h
        try rw [w32_eq (z := 99 + (8 * (k : Int))) (v := 99 + 8 * (k : Int)) (by omega) (by omega) (by omega)] at h
        have h := zret zy_199 h rfl rfl
        obtain ⟨e1, e2⟩ := oI h
        have h := hO44
        rw [e1, e2] at h
        clear e1 e2
        clear hO44
        have h := zm zy_206 h 2 (q := (10, darg 0 [(4, 253), (0, (k : Int))], [(0, w32 ((99 + 8 * (k : Int)) + 2)), (4, 254)], g)) rfl
        dsimp only at h
        try rw [w32_eq (z := (99 + 8 * (k : Int)) + 2) (v := 101 + 8 * (k : Int)) (by omega) (by omega) (by omega)] at h
        have h := zald zy_206 h rfl rfl (dvb_254 (i := 101 + 8 * (k : Int)) (by omega) (by omega))
        dsimp only at h
        try rw [show (101 + 8 * (k : Int)).toNat = 101 + 8 * k from by omega] at h
        try rw [hO.2.2.1] at h
        have h := zret zy_206 h rfl rfl
        obtain ⟨e1, e2⟩ := oI h
        have h := hO41
        rw [e1, e2] at h
        clear e1 e2
        clear hO41
        have h := zm zy_202 h 1 (q := (cond (crel .ne v ((q : Int))) 26 22, darg 0 [(4, 253), (0, (k : Int))], [], g)) rfl
        dsimp only at h
        rcases zif_ne h with ⟨hc45, h⟩ | ⟨hc45, h⟩
        · have h := zm zy_202 h 1 (q := (27, darg 0 [(4, 253), (0, (k : Int))], [(0, 0)], g)) rfl
          dsimp only at h
          have h := zret zy_202 h rfl rfl
          obtain ⟨e1, e2⟩ := oI h
          have h := hO23
          rw [e1, e2] at h
          clear e1 e2
          clear hO23
          have h := zm zy_200 h 3 (q := (21, darg 0 [(4, 253), (0, (k : Int))], [(0, 1)], g)) rfl
          dsimp only at h
          have h := zret zy_200 h rfl rfl
          obtain ⟨e1, e2⟩ := oI h
          have h := hO12
          rw [e1, e2] at h
          clear e1 e2
          clear hO12
          have h := zm zy_243 h 8 (q := (5, dset (dset (dset (dset (dset (dset (dset lf 4 (0, (k : Int))) 3 (0, (c : Int))) 2 (0, 1)) 1 (0, (W : Int))) 0 (4, 253)) 3 (0, w32 (((c : Int)) + 1))) 4 (0, w32 (((k : Int)) + 1)), [], g)) rfl
          dsimp only at h
          try rw [w32_eq (z := ((c : Int)) + 1) (v := 1 + (c : Int)) (by omega) (by omega) (by omega)] at h
          try rw [w32_eq (z := ((k : Int)) + 1) (v := 1 + (k : Int)) (by omega) (by omega) (by omega)] at h
          refine Or.inr (⟨⟨hc8, hc19, hc45⟩, ?_⟩)
          exact ⟨_, rfl, rfl, rfl, rfl, rfl, h⟩
        · have h := zm zy_202 h 2 (q := (27, darg 0 [(4, 253), (0, (k : Int))], [(0, 1)], g)) rfl
          dsimp only at h
          have h := zret zy_202 h rfl rfl
          obtain ⟨e1, e2⟩ := oI h
          have h := hO23
          rw [e1, e2] at h
          clear e1 e2
          clear hO23
          have h := zm zy_200 h 2 (q := (21, darg 0 [(4, 253), (0, (k : Int))], [(0, 0)], g)) rfl
          dsimp only at h
          have h := zret zy_200 h rfl rfl
          obtain ⟨e1, e2⟩ := oI h
          have h := hO12
          rw [e1, e2] at h
          clear e1 e2
          clear hO12
          have h := zm zy_243 h 6 (q := (5, dset (dset (dset (dset (dset (dset (dset lf 4 (0, (k : Int))) 3 (0, (c : Int))) 2 (0, 1)) 1 (0, (W : Int))) 0 (4, 253)) 3 (0, w32 (((c : Int)) + 0))) 4 (0, w32 (((k : Int)) + 1)), [], g)) rfl
          dsimp only at h
          try rw [w32_eq (z := ((c : Int)) + 0) (v := (c : Int)) (by omega) (by omega) (by omega)] at h
          try rw [w32_eq (z := ((k : Int)) + 1) (v := 1 + (k : Int)) (by omega) (by omega) (by omega)] at h
          refine Or.inl (⟨Or.inr (Or.inr (⟨hc8, hc19, hc45⟩)), ?_⟩)
          exact ⟨_, rfl, rfl, rfl, rfl, rfl, h⟩
theorem m_wdo1_e {sv : Nat → Int32} {L n : Nat} {lf : dlf} {g : cg} {o : cg × Option cv} {W k N c : Nat} (rW : W ≤ 5) (rk : k ≤ 16) (rN : N ≤ 16) (rc : c ≤ 16) (hN : g 254 2 = (N : Int)) (hge : N ≤ k) (h : zr sv L (n + 1) 243 5 lf [] g o) (hl0 : lf 0 = (4, 253)) (hl1 : lf 1 = (0, (W : Int))) (hl2 : lf 2 = (0, 1)) (hl3 : lf 3 = (0, (c : Int))) (hl4 : lf 4 = (0, (k : Int))) : o = (g, some (0, (c : Int))) := by
  rw [zov hl0, zov hl1, zov hl2, zov hl3, zov hl4] at h
  have h := zm1 zy_243 h 5 (q := (cond (crel .ge ((k : Int)) (g 254 2)) 98 16, dset (dset (dset (dset (dset lf 4 (0, (k : Int))) 3 (0, (c : Int))) 2 (0, 1)) 1 (0, (W : Int))) 0 (4, 253), [], g)) rfl
  dsimp only at h
  try rw [hN] at h
  rcases zif_ge h with ⟨hc1, h⟩ | ⟨hc1, h⟩
  · have h := zm zy_243 h 1 (q := (99, dset (dset (dset (dset (dset lf 4 (0, (k : Int))) 3 (0, (c : Int))) 2 (0, 1)) 1 (0, (W : Int))) 0 (4, 253), [(0, (c : Int))], g)) rfl
    dsimp only at h
    exact zret zy_243 h rfl rfl
  · exact absurd hc1 (by omega)
theorem m_wdo0_2 {sv : Nat → Int32} {L n : Nat} {lf : dlf} {g : cg} {o : cg × Option cv} {W : Nat} (rW : W ≤ 5) (h : zr sv L n 243 0 lf [] g o) (hl0 : lf 0 = (4, 253)) (hl1 : lf 1 = (0, (W : Int))) (hl2 : lf 2 = (0, 2)) : ∃ lf', lf' 0 = (4, 253) ∧ lf' 1 = (0, (W : Int)) ∧ lf' 2 = (0, 2) ∧ lf' 3 = (0, 0) ∧ lf' 4 = (0, 0) ∧ zr sv L n 243 5 lf' [] g o := by
  rw [zov hl0, zov hl1, zov hl2] at h
  have h := zm zy_243 h 4 (q := (5, dset (dset (dset (dset (dset lf 2 (0, 2)) 1 (0, (W : Int))) 0 (4, 253)) 3 (0, 0)) 4 (0, 0), [], g)) rfl
  dsimp only at h
  exact ⟨_, rfl, rfl, rfl, rfl, rfl, h⟩
theorem m_wdo2_s {sv : Nat → Int32} {L n : Nat} {lf : dlf} {g : cg} {o : cg × Option cv} {W w p q t k N c : Nat} {f s b v : Int} (rW : W ≤ 5) (rw : w ≤ 5) (rp : p ≤ 5) (rq : q ≤ 4) (rt : t ≤ 7) (rk : k ≤ 15) (rN : N ≤ 16) (rc : c ≤ 15) (hN : g 254 2 = (N : Int)) (hO : OHM g k w p q t f s b) (hv : g 254 (51 + 8 * p + t) = v) (hlt : k < N) (h : zr sv L (n + 1) 243 5 lf [] g o) (hl0 : lf 0 = (4, 253)) (hl1 : lf 1 = (0, (W : Int))) (hl2 : lf 2 = (0, 2)) (hl3 : lf 3 = (0, (c : Int))) (hl4 : lf 4 = (0, (k : Int))) : ((((w : Int) ≠ (W : Int)) ∨ ((w : Int) = (W : Int) ∧ s ≠ 1)) ∧ (∃ lf', lf' 0 = (4, 253) ∧ lf' 1 = (0, (W : Int)) ∧ lf' 2 = (0, 2) ∧ lf' 3 = (0, (c : Int)) ∧ lf' 4 = (0, 1 + (k : Int)) ∧ zr sv L n 243 5 lf' [] g o)) ∨ (((w : Int) = (W : Int) ∧ s = 1) ∧ (∃ lf', lf' 0 = (4, 253) ∧ lf' 1 = (0, (W : Int)) ∧ lf' 2 = (0, 2) ∧ lf' 3 = (0, 1 + (c : Int)) ∧ lf' 4 = (0, 1 + (k : Int)) ∧ zr sv L n 243 5 lf' [] g o)) := by
  rw [zov hl0, zov hl1, zov hl2, zov hl3, zov hl4] at h
  have h := zm1 zy_243 h 5 (q := (cond (crel .ge ((k : Int)) (g 254 2)) 98 16, dset (dset (dset (dset (dset lf 4 (0, (k : Int))) 3 (0, (c : Int))) 2 (0, 2)) 1 (0, (W : Int))) 0 (4, 253), [], g)) rfl
  dsimp only at h
  try rw [hN] at h
  rcases zif_ge h with ⟨hc1, h⟩ | ⟨hc1, h⟩
  · exact absurd hc1 (by omega)
  · have h := zm zy_243 h 3 (q := (20, dset (dset (dset (dset (dset lf 4 (0, (k : Int))) 3 (0, (c : Int))) 2 (0, 2)) 1 (0, (W : Int))) 0 (4, 253), [(0, (k : Int)), (4, 253), (0, (c : Int))], g)) rfl
    dsimp only at h
    obtain ⟨gz2, rz3, hk, h⟩ := zcallI zy_243 h rfl rfl zy_211 zk_211
    dsimp only at hk h
    have hO4 := h
    have h := hk
    clear hk
    have h := zm zy_211 h 3 (q := (5, darg 0 [(4, 253), (0, (k : Int))], [(0, (k : Int)), (4, 254)], g)) rfl
    dsimp only at h
    obtain ⟨gz5, rz6, hk, h⟩ := zcallI zy_211 h rfl rfl zy_199 zk_199
    dsimp only at hk h
    have hO7 := h
    have h := hk
    clear hk
    have h := zm zy_199 h 5 (q := (7, darg 0 [(0, (k : Int))], [(0, w32 (99 + (w32 (8 * ((k : Int))))))], g)) rfl
    dsimp only at h
    try rw [w32_eq (z := 8 * ((k : Int))) (v := 8 * (k : Int)) (by omega) (by omega) (by omega)] at h
    try rw [w32_eq (z := 99 + (8 * (k : Int))) (v := 99 + 8 * (k : Int)) (by omega) (by omega) (by omega)] at h
    have h := zret zy_199 h rfl rfl
    obtain ⟨e1, e2⟩ := oI h
    have h := hO7
    rw [e1, e2] at h
    clear e1 e2
    clear hO7
    have h := zald zy_211 h rfl rfl (dvb_254 (i := 99 + 8 * (k : Int)) (by omega) (by omega))
    dsimp only at h
    try rw [show (99 + 8 * (k : Int)).toNat = 99 + 8 * k from by omega] at h
    try rw [hO.1] at h
    have h := zret zy_211 h rfl rfl
    obtain ⟨e1, e2⟩ := oI h
    have h := hO4
    rw [e1, e2] at h
    clear e1 e2
    clear hO4
    have h := zm zy_243 h 2 (q := (cond (crel .ne ((w : Int)) ((W : Int))) 89 27, dset (dset (dset (dset (dset lf 4 (0, (k : Int))) 3 (0, (c : Int))) 2 (0, 2)) 1 (0, (W : Int))) 0 (4, 253), [(0, (c : Int))], g)) rfl
    dsimp only at h
    rcases zif_ne h with ⟨hc8, h⟩ | ⟨hc8, h⟩
    · have h := zm zy_243 h 5 (q := (5, dset (dset (dset (dset (dset (dset (dset lf 4 (0, (k : Int))) 3 (0, (c : Int))) 2 (0, 2)) 1 (0, (W : Int))) 0 (4, 253)) 3 (0, w32 (((c : Int)) + 0))) 4 (0, w32 (((k : Int)) + 1)), [], g)) rfl
      dsimp only at h
      try rw [w32_eq (z := ((c : Int)) + 0) (v := (c : Int)) (by omega) (by omega) (by omega)] at h
      try rw [w32_eq (z := ((k : Int)) + 1) (v := 1 + (k : Int)) (by omega) (by omega) (by omega)] at h
      refine Or.inl (⟨Or.inl (hc8), ?_⟩)
      exact ⟨_, rfl, rfl, rfl, rfl, rfl, h⟩
    · have h := zm zy_243 h 8 (q := (75, dset (dset (dset (dset (dset lf 4 (0, (k : Int))) 3 (0, (c : Int))) 2 (0, 2)) 1 (0, (W : Int))) 0 (4, 253), [(0, (k : Int)), (4, 254), (0, (c : Int))], g)) rfl
      dsimp only at h
      obtain ⟨gz10, rz11, hk, h⟩ := zcallI zy_243 h rfl rfl zy_199 zk_199
      dsimp only at hk h
      have hO12 := h
      have h := hk
      clear hk
      have h := zm zy_199 h 5 (q := (7, darg 0 [(0, (k : Int))], [(0, w32 (99 + (w32 (8 * ((k : Int))))))], g)) rfl
      dsimp only at h
      try rw [w32_eq (z := 8 * ((k : Int))) (v := 8 * (k : Int)) (by omega) (by omega) (by omega)] at h
      try rw [w32_eq (z := 99 + (8 * (k : Int))) (v := 99 + 8 * (k : Int)) (by omega) (by omega) (by omega)] at h
      have h := zret zy_199 h rfl rfl
      obtain ⟨e1, e2⟩ := oI h
      have h := hO12
      rw [e1, e2] at h
      clear e1 e2
      clear hO12
      have h := zm zy_243 h 2 (q := (80, dset (dset (dset (dset (dset lf 4 (0, (k : Int))) 3 (0, (c : Int))) 2 (0, 2)) 1 (0, (W : Int))) 0 (4, 253), [(0, w32 ((99 + 8 * (k : Int)) + 5)), (4, 254), (0, (c : Int))], g)) rfl
      dsimp only at h
      try rw [w32_eq (z := (99 + 8 * (k : Int)) + 5) (v := 104 + 8 * (k : Int)) (by omega) (by omega) (by omega)] at h
      have h := zald zy_243 h rfl rfl (dvb_254 (i := 104 + 8 * (k : Int)) (by omega) (by omega))
      dsimp only at h
      try rw [show (104 + 8 * (k : Int)).toNat = 104 + 8 * k from by omega] at h
      try rw [hO.2.2.2.2.2.1] at h
      have h := zm zy_243 h 2 (q := (cond (crel .ne s 1) 89 85, dset (dset (dset (dset (dset lf 4 (0, (k : Int))) 3 (0, (c : Int))) 2 (0, 2)) 1 (0, (W : Int))) 0 (4, 253), [(0, (c : Int))], g)) rfl
      dsimp only at h
      rcases zif_ne h with ⟨hc13, h⟩ | ⟨hc13, h⟩
      · have h := zm zy_243 h 5 (q := (5, dset (dset (dset (dset (dset (dset (dset lf 4 (0, (k : Int))) 3 (0, (c : Int))) 2 (0, 2)) 1 (0, (W : Int))) 0 (4, 253)) 3 (0, w32 (((c : Int)) + 0))) 4 (0, w32 (((k : Int)) + 1)), [], g)) rfl
        dsimp only at h
        try rw [w32_eq (z := ((c : Int)) + 0) (v := (c : Int)) (by omega) (by omega) (by omega)] at h
        try rw [w32_eq (z := ((k : Int)) + 1) (v := 1 + (k : Int)) (by omega) (by omega) (by omega)] at h
        refine Or.inl (⟨Or.inr (⟨hc8, hc13⟩), ?_⟩)
        exact ⟨_, rfl, rfl, rfl, rfl, rfl, h⟩
      · have h := zm zy_243 h 6 (q := (5, dset (dset (dset (dset (dset (dset (dset lf 4 (0, (k : Int))) 3 (0, (c : Int))) 2 (0, 2)) 1 (0, (W : Int))) 0 (4, 253)) 3 (0, w32 (((c : Int)) + 1))) 4 (0, w32 (((k : Int)) + 1)), [], g)) rfl
        dsimp only at h
        try rw [w32_eq (z := ((c : Int)) + 1) (v := 1 + (c : Int)) (by omega) (by omega) (by omega)] at h
        try rw [w32_eq (z := ((k : Int)) + 1) (v := 1 + (k : Int)) (by omega) (by omega) (by omega)] at h
        refine Or.inr (⟨⟨hc8, hc13⟩, ?_⟩)
        exact ⟨_, rfl, rfl, rfl, rfl, rfl, h⟩
theorem m_wdo2_e {sv : Nat → Int32} {L n : Nat} {lf : dlf} {g : cg} {o : cg × Option cv} {W k N c : Nat} (rW : W ≤ 5) (rk : k ≤ 16) (rN : N ≤ 16) (rc : c ≤ 16) (hN : g 254 2 = (N : Int)) (hge : N ≤ k) (h : zr sv L (n + 1) 243 5 lf [] g o) (hl0 : lf 0 = (4, 253)) (hl1 : lf 1 = (0, (W : Int))) (hl2 : lf 2 = (0, 2)) (hl3 : lf 3 = (0, (c : Int))) (hl4 : lf 4 = (0, (k : Int))) : o = (g, some (0, (c : Int))) := by
  rw [zov hl0, zov hl1, zov hl2, zov hl3, zov hl4] at h
  have h := zm1 zy_243 h 5 (q := (cond (crel .ge ((k : Int)) (g 254 2)) 98 16, dset (dset (dset (dset (dset lf 4 (0, (k : Int))) 3 (0, (c : Int))) 2 (0, 2)) 1 (0, (W : Int))) 0 (4, 253), [], g)) rfl
  dsimp only at h
  try rw [hN] at h
  rcases zif_ge h with ⟨hc1, h⟩ | ⟨hc1, h⟩
  · have h := zm zy_243 h 1 (q := (99, dset (dset (dset (dset (dset lf 4 (0, (k : Int))) 3 (0, (c : Int))) 2 (0, 2)) 1 (0, (W : Int))) 0 (4, 253), [(0, (c : Int))], g)) rfl
    dsimp only at h
    exact zret zy_243 h rfl rfl
  · exact absurd hc1 (by omega)
end
