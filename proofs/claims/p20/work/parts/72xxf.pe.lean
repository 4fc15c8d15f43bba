/-! oath, kin, person, told: printed by program (wip/tools/zpe.py) -/
section
set_option maxRecDepth 100000
theorem zy_77 : xg xcode 77 = some xt_77 := rfl
theorem zk_77 : zkc 1 xt_77 = true := by decide +kernel
theorem zy_78 : xg xcode 78 = some xt_78 := rfl
theorem zk_78 : zkc 1 xt_78 = true := by decide +kernel
theorem zy_82 : xg xcode 82 = some xt_82 := rfl
theorem zk_82 : zkc 1 xt_82 = true := by decide +kernel
theorem zy_83 : xg xcode 83 = some xt_83 := rfl
theorem zk_83 : zkc 1 xt_83 = true := by decide +kernel
theorem zy_85 : xg xcode 85 = some xt_85 := rfl
theorem zk_85 : zkc 1 xt_85 = true := by decide +kernel
theorem zy_107 : xg xcode 107 = some xt_107 := rfl
theorem zk_107 : zkc 1 xt_107 = true := by decide +kernel
theorem zy_110 : xg xcode 110 = some xt_110 := rfl
theorem zk_110 : zkc 1 xt_110 = true := by decide +kernel
theorem zy_111 : xg xcode 111 = some xt_111 := rfl
theorem zk_111 : zkc 1 xt_111 = true := by decide +kernel
theorem zy_112 : xg xcode 112 = some xt_112 := rfl
theorem zk_112 : zkc 1 xt_112 = true := by decide +kernel
theorem zy_113 : xg xcode 113 = some xt_113 := rfl
theorem zk_113 : zkc 1 xt_113 = true := by decide +kernel
theorem zy_123 : xg xcode 123 = some xt_123 := rfl
theorem zk_123 : zkc 1 xt_123 = true := by decide +kernel
theorem zy_126 : xg xcode 126 = some xt_126 := rfl
theorem zk_126 : zkc 1 xt_126 = true := by decide +kernel
theorem zy_133 : xg xcode 133 = some xt_133 := rfl
theorem zk_133 : zkc 1 xt_133 = true := by decide +kernel
theorem zy_134 : xg xcode 134 = some xt_134 := rfl
theorem zk_134 : zkc 1 xt_134 = true := by decide +kernel
theorem zy_135 : xg xcode 135 = some xt_135 := rfl
theorem zk_135 : zkc 1 xt_135 = true := by decide +kernel
theorem zy_237 : xg xcode 237 = some xt_237 := rfl
theorem zk_237 : zkc 1 xt_237 = true := by decide +kernel
theorem zy_279 : xg xcode 279 = some xt_279 := rfl
theorem zk_279 : zkc 1 xt_279 = true := by decide +kernel
theorem zy_280 : xg xcode 280 = some xt_280 := rfl
theorem zk_280 : zkc 1 xt_280 = true := by decide +kernel
theorem zy_283 : xg xcode 283 = some xt_283 := rfl
theorem zk_283 : zkc 1 xt_283 = true := by decide +kernel
theorem zy_284 : xg xcode 284 = some xt_284 := rfl
theorem zk_284 : zkc 1 xt_284 = true := by decide +kernel
theorem zy_287 : xg xcode 287 = some xt_287 := rfl
theorem zk_287 : zkc 1 xt_287 = true := by decide +kernel
theorem zy_288 : xg xcode 288 = some xt_288 := rfl
theorem zk_288 : zkc 1 xt_288 = true := by decide +kernel
theorem zy_315 : xg xcode 315 = some xt_315 := rfl
theorem zk_315 : zkc 1 xt_315 = true := by decide +kernel
theorem zy_316 : xg xcode 316 = some xt_316 := rfl
theorem zk_316 : zkc 1 xt_316 = true := by decide +kernel
theorem zy_319 : xg xcode 319 = some xt_319 := rfl
theorem zk_319 : zkc 1 xt_319 = true := by decide +kernel
theorem zy_320 : xg xcode 320 = some xt_320 := rfl
theorem zk_320 : zkc 1 xt_320 = true := by decide +kernel
theorem zy_329 : xg xcode 329 = some xt_329 := rfl
theorem zk_329 : zkc 1 xt_329 = true := by decide +kernel
theorem zy_330 : xg xcode 330 = some xt_330 := rfl
theorem zk_330 : zkc 1 xt_330 = true := by decide +kernel
theorem zy_333 : xg xcode 333 = some xt_333 := rfl
theorem zk_333 : zkc 1 xt_333 = true := by decide +kernel
theorem zy_334 : xg xcode 334 = some xt_334 := rfl
theorem zk_334 : zkc 1 xt_334 = true := by decide +kernel
theorem zy_343 : xg xcode 343 = some xt_343 := rfl
theorem zk_343 : zkc 1 xt_343 = true := by decide +kernel
theorem zy_344 : xg xcode 344 = some xt_344 := rfl
theorem zk_344 : zkc 1 xt_344 = true := by decide +kernel
theorem zy_345 : xg xcode 345 = some xt_345 := rfl
theorem zk_345 : zkc 1 xt_345 = true := by decide +kernel
theorem zy_346 : xg xcode 346 = some xt_346 := rfl
theorem zk_346 : zkc 1 xt_346 = true := by decide +kernel
theorem zy_347 : xg xcode 347 = some xt_347 := rfl
theorem zk_347 : zkc 1 xt_347 = true := by decide +kernel
theorem zy_348 : xg xcode 348 = some xt_348 := rfl
theorem zk_348 : zkc 1 xt_348 = true := by decide +kernel
theorem zy_349 : xg xcode 349 = some xt_349 := rfl
theorem zk_349 : zkc 1 xt_349 = true := by decide +kernel
theorem zy_350 : xg xcode 350 = some xt_350 := rfl
theorem zk_350 : zkc 1 xt_350 = true := by decide +kernel
theorem ztab_0_5 {z : Int} : z = 0 ∨ z = 1 ∨ z = 2 ∨ z = 3 ∨ z = 4 ∨ z = 5 ∨ (z < 0 ∨ 5 < z) := by omega
theorem ztab_0_11 {z : Int} : z = 0 ∨ z = 1 ∨ z = 2 ∨ z = 3 ∨ z = 4 ∨ z = 5 ∨ z = 6 ∨ z = 7 ∨ z = 8 ∨ z = 9 ∨ z = 10 ∨ z = 11 ∨ (z < 0 ∨ 11 < z) := by omega
theorem m_oa24_0 {sv : Nat → Int32} {L n : Nat} {lf : dlf} {g : cg} {o : cg × Option cv} {w p q t k : Nat} {f s b v : Int} (rw : w ≤ 5) (rp : p ≤ 5) (rq : q ≤ 4) (rt : t ≤ 7) (rk : k ≤ 15) (hO : OHM g k w p q t f s b) (hv : g 254 (51 + 8 * p + t) = v) (h : zr sv L n 292 24 lf [] g o) (hl0 : lf 0 = (4, 253)) (hl1 : lf 1 = (0, (k : Int))) (hl2 : lf 2 = (0, 0)) : o = (cup g 253 2 0, some (0, (w : Int))) := by
  rw [zov hl0, zov hl1, zov hl2] at h
  have h := zm zy_292 h 7 (q := (52, dset (dset (dset lf 2 (0, 0)) 1 (0, (k : Int))) 0 (4, 253), [(0, (k : Int)), (4, 254), (4, 253)], g)) rfl
  dsimp only at h
  obtain ⟨gz1, rz2, hk, h⟩ := zcallI zy_292 h rfl rfl zy_199 zk_199
  dsimp only at hk h
  have hO3 := h
  have h := hk
  clear hk
  have h := zm zy_199 h 5 (q := (7, darg 0 [(0, (k : Int))], [(0, w32 (99 + (w32 (8 * ((k : Int))))))], g)) rfl
  dsimp only at h
  try rw [w32_eq (z := 8 * ((k : Int))) (v := 8 * (k : Int)) (by omega) (by omega) (by omega)] at h
  try rw [w32_eq (z := 99 + (8 * (k : Int))) (v := 99 + 8 * (k : Int)) (by omega) (by omega) (by omega)] at h
  have h := zret zy_199 h rfl rfl
  obtain ⟨e1, e2⟩ := oI h
  have h := hO3
  rw [e1, e2] at h
  clear e1 e2
  clear hO3
  have h := zm zy_292 h 2 (q := (57, dset (dset (dset lf 2 (0, 0)) 1 (0, (k : Int))) 0 (4, 253), [(0, w32 ((99 + 8 * (k : Int)) + 0)), (4, 254), (4, 253)], g)) rfl
  dsimp only at h
  try rw [w32_eq (z := (99 + 8 * (k : Int)) + 0) (v := 99 + 8 * (k : Int)) (by omega) (by omega) (by omega)] at h
  have h := zald zy_292 h rfl rfl (dvb_254 (i := 99 + 8 * (k : Int)) (by omega) (by omega))
  dsimp only at h
  try rw [show (99 + 8 * (k : Int)).toNat = 99 + 8 * k from by omega] at h
  try rw [hO.1] at h
  obtain ⟨gz4, rz5, hk, h⟩ := zcallI zy_292 h rfl rfl zy_192 zk_192
  dsimp only at hk h
  have hO6 := h
  have h := hk
  clear hk
  have h := zm zy_192 h 4 (q := (6, darg 0 [(4, 253), (0, (w : Int))], [(0, (w : Int))], cup g 253 2 0)) rfl
  dsimp only at h
  have h := zret zy_192 h rfl rfl
  obtain ⟨e1, e2⟩ := oI h
  have h := hO6
  rw [e1, e2] at h
  clear e1 e2
  clear hO6
  exact zret zy_292 h rfl rfl
theorem m_oa24_1 {sv : Nat → Int32} {L n : Nat} {lf : dlf} {g : cg} {o : cg × Option cv} {w p q t k : Nat} {f s b v : Int} (rw : w ≤ 5) (rp : p ≤ 5) (rq : q ≤ 4) (rt : t ≤ 7) (rk : k ≤ 15) (hO : OHM g k w p q t f s b) (hv : g 254 (51 + 8 * p + t) = v) (h : zr sv L n 292 24 lf [] g o) (hl0 : lf 0 = (4, 253)) (hl1 : lf 1 = (0, (k : Int))) (hl2 : lf 2 = (0, 1)) : o = (cup g 253 2 0, some (0, (p : Int))) := by
  rw [zov hl0, zov hl1, zov hl2] at h
  have h := zm zy_292 h 7 (q := (52, dset (dset (dset lf 2 (0, 1)) 1 (0, (k : Int))) 0 (4, 253), [(0, (k : Int)), (4, 254), (4, 253)], g)) rfl
  dsimp only at h
  obtain ⟨gz1, rz2, hk, h⟩ := zcallI zy_292 h rfl rfl zy_199 zk_199
  dsimp only at hk h
  have hO3 := h
  have h := hk
  clear hk
  have h := zm zy_199 h 5 (q := (7, darg 0 [(0, (k : Int))], [(0, w32 (99 + (w32 (8 * ((k : Int))))))], g)) rfl
  dsimp only at h
  try rw [w32_eq (z := 8 * ((k : Int))) (v := 8 * (k : Int)) (by omega) (by omega) (by omega)] at h
  try rw [w32_eq (z := 99 + (8 * (k : Int))) (v := 99 + 8 * (k : Int)) (by omega) (by omega) (by omega)] at h
  have h := zret zy_199 h rfl rfl
  obtain ⟨e1, e2⟩ := oI h
  have h := hO3
  rw [e1, e2] at h
  clear e1 e2
  clear hO3
  have h := zm zy_292 h 2 (q := (57, dset (dset (dset lf 2 (0, 1)) 1 (0, (k : Int))) 0 (4, 253), [(0, w32 ((99 + 8 * (k : Int)) + 1)), (4, 254), (4, 253)], g)) rfl
  dsimp only at h
  try rw [w32_eq (z := (99 + 8 * (k : Int)) + 1) (v := 100 + 8 * (k : Int)) (by omega) (by omega) (by omega)] at h
  have h := zald zy_292 h rfl rfl (dvb_254 (i := 100 + 8 * (k : Int)) (by omega) (by omega))
  dsimp only at h
  try rw [show (100 + 8 * (k : Int)).toNat = 100 + 8 * k from by omega] at h
  try rw [hO.2.1] at h
  obtain ⟨gz4, rz5, hk, h⟩ := zcallI zy_292 h rfl rfl zy_192 zk_192
  dsimp only at hk h
  have hO6 := h
  have h := hk
  clear hk
  have h := zm zy_192 h 4 (q := (6, darg 0 [(4, 253), (0, (p : Int))], [(0, (p : Int))], cup g 253 2 0)) rfl
  dsimp only at h
  have h := zret zy_192 h rfl rfl
  obtain ⟨e1, e2⟩ := oI h
  have h := hO6
  rw [e1, e2] at h
  clear e1 e2
  clear hO6
  exact zret zy_292 h rfl rfl
theorem m_oa24_2 {sv : Nat → Int32} {L n : Nat} {lf : dlf} {g : cg} {o : cg × Option cv} {w p q t k : Nat} {f s b v : Int} (rw : w ≤ 5) (rp : p ≤ 5) (rq : q ≤ 4) (rt : t ≤ 7) (rk : k ≤ 15) (hO : OHM g k w p q t f s b) (hv : g 254 (51 + 8 * p + t) = v) (h : zr sv L n 292 24 lf [] g o) (hl0 : lf 0 = (4, 253)) (hl1 : lf 1 = (0, (k : Int))) (hl2 : lf 2 = (0, 2)) : o = (cup g 253 2 0, some (0, (q : Int))) := by
  rw [zov hl0, zov hl1, zov hl2] at h
  have h := zm zy_292 h 7 (q := (52, dset (dset (dset lf 2 (0, 2)) 1 (0, (k : Int))) 0 (4, 253), [(0, (k : Int)), (4, 254), (4, 253)], g)) rfl
  dsimp only at h
  obtain ⟨gz1, rz2, hk, h⟩ := zcallI zy_292 h rfl rfl zy_199 zk_199
  dsimp only at hk h
  have hO3 := h
  have h := hk
  clear hk
  have h := zm zy_199 h 5 (q := (7, darg 0 [(0, (k : Int))], [(0, w32 (99 + (w32 (8 * ((k : Int))))))], g)) rfl
  dsimp only at h
  try rw [w32_eq (z := 8 * ((k : Int))) (v := 8 * (k : Int)) (by omega) (by omega) (by omega)] at h
  try rw [w32_eq (z := 99 + (8 * (k : Int))) (v := 99 + 8 * (k : Int)) (by omega) (by omega) (by omega)] at h
  have h := zret zy_199 h rfl rfl
  obtain ⟨e1, e2⟩ := oI h
  have h := hO3
  rw [e1, e2] at h
  clear e1 e2
  clear hO3
  have h := zm zy_292 h 2 (q := (57, dset (dset (dset lf 2 (0, 2)) 1 (0, (k : Int))) 0 (4, 253), [(0, w32 ((99 + 8 * (k : Int)) + 2)), (4, 254), (4, 253)], g)) rfl
  dsimp only at h
  try rw [w32_eq (z := (99 + 8 * (k : Int)) + 2) (v := 101 + 8 * (k : Int)) (by omega) (by omega) (by omega)] at h
  have h := zald zy_292 h rfl rfl (dvb_254 (i := 101 + 8 * (k : Int)) (by omega) (by omega))
  dsimp only at h
  try rw [show (101 + 8 * (k : Int)).toNat = 101 + 8 * k from by omega] at h
  try rw [hO.2.2.1] at h
  obtain ⟨gz4, rz5, hk, h⟩ := zcallI zy_292 h rfl rfl zy_192 zk_192
  dsimp only at hk h
  have hO6 := h
  have h := hk
  clear hk
  have h := zm zy_192 h 4 (q := (6, darg 0 [(4, 253), (0, (q : Int))], [(0, (q : Int))], cup g 253 2 0)) rfl
  dsimp only at h
  have h := zret zy_192 h rfl rfl
  obtain ⟨e1, e2⟩ := oI h
  have h := hO6
  rw [e1, e2] at h
  clear e1 e2
  clear hO6
  exact zret zy_292 h rfl rfl
theorem m_oa24_3 {sv : Nat → Int32} {L n : Nat} {lf : dlf} {g : cg} {o : cg × Option cv} {w p q t k : Nat} {f s b v : Int} (rw : w ≤ 5) (rp : p ≤ 5) (rq : q ≤ 4) (rt : t ≤ 7) (rk : k ≤ 15) (hO : OHM g k w p q t f s b) (hv : g 254 (51 + 8 * p + t) = v) (h : zr sv L n 292 24 lf [] g o) (hl0 : lf 0 = (4, 253)) (hl1 : lf 1 = (0, (k : Int))) (hl2 : lf 2 = (0, 3)) : o = (cup g 253 2 0, some (0, (t : Int))) := by
  rw [zov hl0, zov hl1, zov hl2] at h
  have h := zm zy_292 h 7 (q := (52, dset (dset (dset lf 2 (0, 3)) 1 (0, (k : Int))) 0 (4, 253), [(0, (k : Int)), (4, 254), (4, 253)], g)) rfl
  dsimp only at h
  obtain ⟨gz1, rz2, hk, h⟩ := zcallI zy_292 h rfl rfl zy_199 zk_199
  dsimp only at hk h
  have hO3 := h
  have h := hk
  clear hk
  have h := zm zy_199 h 5 (q := (7, darg 0 [(0, (k : Int))], [(0, w32 (99 + (w32 (8 * ((k : Int))))))], g)) rfl
  dsimp only at h
  try rw [w32_eq (z := 8 * ((k : Int))) (v := 8 * (k : Int)) (by omega) (by omega) (by omega)] at h
  try rw [w32_eq (z := 99 + (8 * (k : Int))) (v := 99 + 8 * (k : Int)) (by omega) (by omega) (by omega)] at h
  have h := zret zy_199 h rfl rfl
  obtain ⟨e1, e2⟩ := oI h
  have h := hO3
  rw [e1, e2] at h
  clear e1 e2
  clear hO3
  have h := zm zy_292 h 2 (q := (57, dset (dset (dset lf 2 (0, 3)) 1 (0, (k : Int))) 0 (4, 253), [(0, w32 ((99 + 8 * (k : Int)) + 3)), (4, 254), (4, 253)], g)) rfl
  dsimp only at h
  try rw [w32_eq (z := (99 + 8 * (k : Int)) + 3) (v := 102 + 8 * (k : Int)) (by omega) (by omega) (by omega)] at h
  have h := zald zy_292 h rfl rfl (dvb_254 (i := 102 + 8 * (k : Int)) (by omega) (by omega))
  dsimp only at h
  try rw [show (102 + 8 * (k : Int)).toNat = 102 + 8 * k from by omega] at h
  try rw [hO.2.2.2.1] at h
  obtain ⟨gz4, rz5, hk, h⟩ := zcallI zy_292 h rfl rfl zy_192 zk_192
  dsimp only at hk h
  have hO6 := h
  have h := hk
  clear hk
  have h := zm zy_192 h 4 (q := (6, darg 0 [(4, 253), (0, (t : Int))], [(0, (t : Int))], cup g 253 2 0)) rfl
  dsimp only at h
  have h := zret zy_192 h rfl rfl
  obtain ⟨e1, e2⟩ := oI h
  have h := hO6
  rw [e1, e2] at h
  clear e1 e2
  clear hO6
  exact zret zy_292 h rfl rfl
theorem m_oa24_4 {sv : Nat → Int32} {L n : Nat} {lf : dlf} {g : cg} {o : cg × Option cv} {w p q t k : Nat} {f s b v : Int} (rw : w ≤ 5) (rp : p ≤ 5) (rq : q ≤ 4) (rt : t ≤ 7) (rk : k ≤ 15) (hO : OHM g k w p q t f s b) (hv : g 254 (51 + 8 * p + t) = v) (h : zr sv L n 292 24 lf [] g o) (hl0 : lf 0 = (4, 253)) (hl1 : lf 1 = (0, (k : Int))) (hl2 : lf 2 = (0, 4)) : o = (cup g 253 2 0, some (0, f)) := by
  rw [zov hl0, zov hl1, zov hl2] at h
  have h := zm zy_292 h 7 (q := (52, dset (dset (dset lf 2 (0, 4)) 1 (0, (k : Int))) 0 (4, 253), [(0, (k : Int)), (4, 254), (4, 253)], g)) rfl
  dsimp only at h
  obtain ⟨gz1, rz2, hk, h⟩ := zcallI zy_292 h rfl rfl zy_199 zk_199
  dsimp only at hk h
  have hO3 := h
  have h := hk
  clear hk
  have h := zm zy_199 h 5 (q := (7, darg 0 [(0, (k : Int))], [(0, w32 (99 + (w32 (8 * ((k : Int))))))], g)) rfl
  dsimp only at h
  try rw [w32_eq (z := 8 * ((k : Int))) (v := 8 * (k : Int)) (by omega) (by omega) (by omega)] at h
  try rw [w32_eq (z := 99 + (8 * (k : Int))) (v := 99 + 8 * (k : Int)) (by omega) (by omega) (by omega)] at h
  have h := zret zy_199 h rfl rfl
  obtain ⟨e1, e2⟩ := oI h
  have h := hO3
  rw [e1, e2] at h
  clear e1 e2
  clear hO3
  have h := zm zy_292 h 2 (q := (57, dset (dset (dset lf 2 (0, 4)) 1 (0, (k : Int))) 0 (4, 253), [(0, w32 ((99 + 8 * (k : Int)) + 4)), (4, 254), (4, 253)], g)) rfl
  dsimp only at h
  try rw [w32_eq (z := (99 + 8 * (k : Int)) + 4) (v := 103 + 8 * (k : Int)) (by omega) (by omega) (by omega)] at h
  have h := zald zy_292 h rfl rfl (dvb_254 (i := 103 + 8 * (k : Int)) (by omega) (by omega))
  dsimp only at h
  try rw [show (103 + 8 * (k : Int)).toNat = 103 + 8 * k from by omega] at h
  try rw [hO.2.2.2.2.1] at h
  obtain ⟨gz4, rz5, hk, h⟩ := zcallI zy_292 h rfl rfl zy_192 zk_192
  dsimp only at hk h
  have hO6 := h
  have h := hk
  clear hk
  have h := zm zy_192 h 4 (q := (6, darg 0 [(4, 253), (0, f)], [(0, f)], cup g 253 2 0)) rfl
  dsimp only at h
  have h := zret zy_192 h rfl rfl
  obtain ⟨e1, e2⟩ := oI h
  have h := hO6
  rw [e1, e2] at h
  clear e1 e2
  clear hO6
  exact zret zy_292 h rfl rfl
theorem m_oa24_5 {sv : Nat → Int32} {L n : Nat} {lf : dlf} {g : cg} {o : cg × Option cv} {w p q t k : Nat} {f s b v : Int} (rw : w ≤ 5) (rp : p ≤ 5) (rq : q ≤ 4) (rt : t ≤ 7) (rk : k ≤ 15) (hO : OHM g k w p q t f s b) (hv : g 254 (51 + 8 * p + t) = v) (h : zr sv L n 292 24 lf [] g o) (hl0 : lf 0 = (4, 253)) (hl1 : lf 1 = (0, (k : Int))) (hl2 : lf 2 = (0, 5)) : o = (cup g 253 2 0, some (0, s)) := by
  rw [zov hl0, zov hl1, zov hl2] at h
  have h := zm zy_292 h 7 (q := (52, dset (dset (dset lf 2 (0, 5)) 1 (0, (k : Int))) 0 (4, 253), [(0, (k : Int)), (4, 254), (4, 253)], g)) rfl
  dsimp only at h
  obtain ⟨gz1, rz2, hk, h⟩ := zcallI zy_292 h rfl rfl zy_199 zk_199
  dsimp only at hk h
  have hO3 := h
  have h := hk
  clear hk
  have h := zm zy_199 h 5 (q := (7, darg 0 [(0, (k : Int))], [(0, w32 (99 + (w32 (8 * ((k : Int))))))], g)) rfl
  dsimp only at h
  try rw [w32_eq (z := 8 * ((k : Int))) (v := 8 * (k : Int)) (by omega) (by omega) (by omega)] at h
  try rw [w32_eq (z := 99 + (8 * (k : Int))) (v := 99 + 8 * (k : Int)) (by omega) (by omega) (by omega)] at h
  have h := zret zy_199 h rfl rfl
  obtain ⟨e1, e2⟩ := oI h
  have h := hO3
  rw [e1, e2] at h
  clear e1 e2
  clear hO3
  have h := zm zy_292 h 2 (q := (57, dset (dset (dset lf 2 (0, 5)) 1 (0, (k : Int))) 0 (4, 253), [(0, w32 ((99 + 8 * (k : Int)) + 5)), (4, 254), (4, 253)], g)) rfl
  dsimp only at h
  try rw [w32_eq (z := (99 + 8 * (k : Int)) + 5) (v := 104 + 8 * (k : Int)) (by omega) (by omega) (by omega)] at h
  have h := zald zy_292 h rfl rfl (dvb_254 (i := 104 + 8 * (k : Int)) (by omega) (by omega))
  dsimp only at h
  try rw [show (104 + 8 * (k : Int)).toNat = 104 + 8 * k from by omega] at h
  try rw [hO.2.2.2.2.2.1] at h
  obtain ⟨gz4, rz5, hk, h⟩ := zcallI zy_292 h rfl rfl zy_192 zk_192
  dsimp only at hk h
  have hO6 := h
  have h := hk
  clear hk
  have h := zm zy_192 h 4 (q := (6, darg 0 [(4, 253), (0, s)], [(0, s)], cup g 253 2 0)) rfl
  dsimp only at h
  have h := zret zy_192 h rfl rfl
  obtain ⟨e1, e2⟩ := oI h
  have h := hO6
  rw [e1, e2] at h
  clear e1 e2
  clear hO6
  exact zret zy_292 h rfl rfl
theorem m_oa24_6 {sv : Nat → Int32} {L n : Nat} {lf : dlf} {g : cg} {o : cg × Option cv} {w p q t k : Nat} {f s b v : Int} (rw : w ≤ 5) (rp : p ≤ 5) (rq : q ≤ 4) (rt : t ≤ 7) (rk : k ≤ 15) (hO : OHM g k w p q t f s b) (hv : g 254 (51 + 8 * p + t) = v) (h : zr sv L n 292 24 lf [] g o) (hl0 : lf 0 = (4, 253)) (hl1 : lf 1 = (0, (k : Int))) (hl2 : lf 2 = (0, 6)) : o = (cup g 253 2 0, some (0, b)) := by
  rw [zov hl0, zov hl1, zov hl2] at h
  have h := zm zy_292 h 7 (q := (52, dset (dset (dset lf 2 (0, 6)) 1 (0, (k : Int))) 0 (4, 253), [(0, (k : Int)), (4, 254), (4, 253)], g)) rfl
  dsimp only at h
  obtain ⟨gz1, rz2, hk, h⟩ := zcallI zy_292 h rfl rfl zy_199 zk_199
  dsimp only at hk h
  have hO3 := h
  have h := hk
  clear hk
  have h := zm zy_199 h 5 (q := (7, darg 0 [(0, (k : Int))], [(0, w32 (99 + (w32 (8 * ((k : Int))))))], g)) rfl
  dsimp only at h
  try rw [w32_eq (z := 8 * ((k : Int))) (v := 8 * (k : Int)) (by omega) (by omega) (by omega)] at h
  try rw [w32_eq (z := 99 + (8 * (k : Int))) (v := 99 + 8 * (k : Int)) (by omega) (by omega) (by omega)] at h
  have h := zret zy_199 h rfl rfl
  obtain ⟨e1, e2⟩ := oI h
  have h := hO3
  rw [e1, e2] at h
  clear e1 e2
  clear hO3
  have h := zm zy_292 h 2 (q := (57, dset (dset (dset lf 2 (0, 6)) 1 (0, (k : Int))) 0 (4, 253), [(0, w32 ((99 + 8 * (k : Int)) + 6)), (4, 254), (4, 253)], g)) rfl
  dsimp only at h
  try rw [w32_eq (z := (99 + 8 * (k : Int)) + 6) (v := 105 + 8 * (k : Int)) (by omega) (by omega) (by omega)] at h
  have h := zald zy_292 h rfl rfl (dvb_254 (i := 105 + 8 * (k : Int)) (by omega) (by omega))
  dsimp only at h
  try rw [show (105 + 8 * (k : Int)).toNat = 105 + 8 * k from by omega] at h
  try rw [hO.2.2.2.2.2.2] at h
  obtain ⟨gz4, rz5, hk, h⟩ := zcallI zy_292 h rfl rfl zy_192 zk_192
  dsimp only at hk h
  have hO6 := h
  have h := hk
  clear hk
  have h := zm zy_192 h 4 (q := (6, darg 0 [(4, 253), (0, b)], [(0, b)], cup g 253 2 0)) rfl
  dsimp only at h
  have h := zret zy_192 h rfl rfl
  obtain ⟨e1, e2⟩ := oI h
  have h := hO6
  rw [e1, e2] at h
  clear e1 e2
  clear hO6
  exact zret zy_292 h rfl rfl
theorem m_oa24_7 {sv : Nat → Int32} {L n : Nat} {lf : dlf} {g : cg} {o : cg × Option cv} {w p q t k : Nat} {f s b v : Int} (rw : w ≤ 5) (rp : p ≤ 5) (rq : q ≤ 4) (rt : t ≤ 7) (rk : k ≤ 15) (hO : OHM g k w p q t f s b) (hv : g 254 (51 + 8 * p + t) = v) (h : zr sv L n 292 24 lf [] g o) (hl0 : lf 0 = (4, 253)) (hl1 : lf 1 = (0, (k : Int))) (hl2 : lf 2 = (0, 7)) : ((v ≠ (q : Int)) ∧ (o = (cup g 253 2 0, some (0, 0)))) ∨ ((v = (q : Int)) ∧ (o = (cup g 253 2 0, some (0, 1)))) := by
  rw [zov hl0, zov hl1, zov hl2] at h
  have h := zm zy_292 h 6 (q := (33, dset (dset (dset lf 2 (0, 7)) 1 (0, (k : Int))) 0 (4, 253), [(0, (k : Int)), (4, 253), (4, 253)], g)) rfl
  dsimp only at h
  obtain ⟨gz1, rz2, hk, h⟩ := zcallI zy_292 h rfl rfl zy_202 zk_202
  dsimp only at hk h
  have hO3 := h
  have h := hk
  clear hk
  have h := zm zy_202 h 3 (q := (3, darg 0 [(4, 253), (0, (k : Int))], [(0, (k : Int)), (4, 253), (4, 253)], g)) rfl
  dsimp only at h
  obtain ⟨gz4, rz5, hk, h⟩ := zcallI zy_202 h rfl rfl zy_203 zk_203
  dsimp only at hk h
  have hO6 := h
  have h := hk
  clear hk
  have h := zm zy_203 h 3 (q := (5, darg 0 [(4, 253), (0, (k : Int))], [(0, (k : Int)), (4, 254)], g)) rfl
  dsimp only at h
  obtain ⟨gz7, rz8, hk, h⟩ := zcallI zy_203 h rfl rfl zy_199 zk_199
  dsimp only at hk h
  have hO9 := h
  have h := hk
  clear hk
  have h := zm zy_199 h 5 (q := (7, darg 0 [(0, (k : Int))], [(0, w32 (99 + (w32 (8 * ((k : Int))))))], g)) rfl
  dsimp only at h
  try rw [w32_eq (z := 8 * ((k : Int))) (v := 8 * (k : Int)) (by omega) (by omega) (by omega)] at h
  try rw [w32_eq (z := 99 + (8 * (k : Int))) (v := 99 + 8 * (k : Int)) (by omega) (by omega) (by omega)] at h
  have h := zret zy_199 h rfl rfl
  obtain ⟨e1, e2⟩ := oI h
  have h := hO9
  rw [e1, e2] at h
  clear e1 e2
  clear hO9
  have h := zm zy_203 h 2 (q := (10, darg 0 [(4, 253), (0, (k : Int))], [(0, w32 ((99 + 8 * (k : Int)) + 1)), (4, 254)], g)) rfl
  dsimp only at h
  try rw [w32_eq (z := (99 + 8 * (k : Int)) + 1) (v := 100 + 8 * (k : Int)) (by omega) (by omega) (by omega)] at h
  have h := zald zy_203 h rfl rfl (dvb_254 (i := 100 + 8 * (k : Int)) (by omega) (by omega))
  dsimp only at h
  try rw [show (100 + 8 * (k : Int)).toNat = 100 + 8 * k from by omega] at h
  try rw [hO.2.1] at h
  have h := zret zy_203 h rfl rfl
  obtain ⟨e1, e2⟩ := oI h
  have h := hO6
  rw [e1, e2] at h
  clear e1 e2
  clear hO6
  have h := zm zy_202 h 2 (q := (8, darg 0 [(4, 253), (0, (k : Int))], [(0, (k : Int)), (4, 253), (0, (p : Int)), (4, 253)], g)) rfl
  dsimp only at h
  obtain ⟨gz10, rz11, hk, h⟩ := zcallI zy_202 h rfl rfl zy_204 zk_204
  dsimp only at hk h
  have hO12 := h
  have h := hk
  clear hk
  have h := zm zy_204 h 3 (q := (5, darg 0 [(4, 253), (0, (k : Int))], [(0, (k : Int)), (4, 254)], g)) rfl
  dsimp only at h
  obtain ⟨gz13, rz14, hk, h⟩ := zcallI zy_204 h rfl rfl zy_199 zk_199
  dsimp only at hk h
  have hO15 := h
  have h := hk
  clear hk
  have h := zm zy_199 h 5 (q := (7, darg 0 [(0, (k : Int))], [(0, w32 (99 + (w32 (8 * ((k : Int))))))], g)) rfl
  dsimp only at h
  try rw [w32_eq (z := 8 * ((k : Int))) (v := 8 * (k : Int)) (by omega) (by omega) (by omega)] at h
  try rw [w32_eq (z := 99 + (8 * (k : Int))) (v := 99 + 8 * (k : Int)) (by omega) (by omega) (by omega)] at h
  have h := zret zy_199 h rfl rfl
  obtain ⟨e1, e2⟩ := oI h
  have h := hO15
  rw [e1, e2] at h
  clear e1 e2
  clear hO15
  have h := zm zy_204 h 2 (q := (10, darg 0 [(4, 253), (0, (k : Int))], [(0, w32 ((99 + 8 * (k : Int)) + 3)), (4, 254)], g)) rfl
  dsimp only at h
  try rw [w32_eq (z := (99 + 8 * (k : Int)) + 3) (v := 102 + 8 * (k : Int)) (by omega) (by omega) (by omega)] at h
  have h := zald zy_204 h rfl rfl (dvb_254 (i := 102 + 8 * (k : Int)) (by omega) (by omega))
  dsimp only at h
  try rw [show (102 + 8 * (k : Int)).toNat = 102 + 8 * k from by omega] at h
  try rw [hO.2.2.2.1] at h
  have h := zret zy_204 h rfl rfl
  obtain ⟨e1, e2⟩ := oI h
  have h := hO12
  rw [e1, e2] at h
  clear e1 e2
  clear hO12
  obtain ⟨gz16, rz17, hk, h⟩ := zcallI zy_202 h rfl rfl zy_205 zk_205
  dsimp only at hk h
  have hO18 := h
  have h := hk
  clear hk
  have h := zm zy_205 h 9 (q := (13, darg 0 [(4, 253), (0, (p : Int)), (0, (t : Int))], [(0, w32 ((w32 (51 + (w32 (8 * ((p : Int)))))) + ((t : Int)))), (4, 254)], g)) rfl
  dsimp only at h
  try rw [w32_eq (z := 8 * ((p : Int))) (v := 8 * (p : Int)) (by omega) (by omega) (by omega)] at h
  try rw [w32_eq (z := 51 + (8 * (p : Int))) (v := 51 + 8 * (p : Int)) (by omega) (by omega) (by omega)] at h
  try rw [w32_eq (z := (51 + 8 * (p : Int)) + ((t : Int))) (v := 51 + 8 * (p : Int) + (t : Int)) (by omega) (by omega) (by omega)] at h
  have h := zald zy_205 h rfl rfl (dvb_254 (i := 51 + 8 * (p : Int) + (t : Int)) (by omega) (by omega))
  dsimp only at h
  try rw [show (51 + 8 * (p : Int) + (t : Int)).toNat = 51 + 8 * p + t from by omega] at h
  try rw [hv] at h
  have h := zret zy_205 h rfl rfl
  obtain ⟨e1, e2⟩ := oI h
  have h := hO18
  rw [e1, e2] at h
  clear e1 e2
  clear hO18
  have h := zm zy_202 h 2 (q := (16, darg 0 [(4, 253), (0, (k : Int))], [(0, (k : Int)), (4, 253), (0, v)], g)) rfl
  dsimp only at h
  obtain ⟨gz19, rz20, hk, h⟩ := zcallI zy_202 h rfl rfl zy_206 zk_206
  dsimp only at hk h
  have hO21 := h
  have h := hk
  clear hk
  have h := zm zy_206 h 3 (q := (5, darg 0 [(4, 253), (0, (k : Int))], [(0, (k : Int)), (4, 254)], g)) rfl
  dsimp only at h
  obtain ⟨gz22, rz23, hk, h⟩ := zcallI zy_206 h rfl rfl zy_199 zk_199
  dsimp only at hk h
  have hO24 := h
  have h := hk
  clear hk
  have h := zm zy_199 h 5 (q := (7, darg 0 [(0, (k : Int))], [(0, w32 (99 + (w32 (8 * ((k : Int))))))], g)) rfl
  dsimp only at h
  try rw [w32_eq (z := 8 * ((k : Int))) (v := 8 * (k : Int)) (by omega) (by omega) (by omega)] at h
  try rw [w32_eq (z := 99 + (8 * (k : Int))) (v := 99 + 8 * (k : Int)) (by omega) (by omega) (by omega)] at h
  have h := zret zy_199 h rfl rfl
  obtain ⟨e1, e2⟩ := oI h
  have h := hO24
  rw [e1, e2] at h
  clear e1 e2
  clear hO24
  have h := zm zy_206 h 2 (q := (10, darg 0 [(4, 253), (0, (k : Int))], [(0, w32 ((99 + 8 * (k : Int)) + 2)), (4, 254)], g)) rfl
  dsimp only at h
  try rw [w32_eq (z := (99 + 8 * (k : Int)) + 2) (v := 101 + 8 * (k : Int)) (by omega) (by omega) (by omega)] at h
  have h := zald zy_206 h rfl rfl (dvb_254 (i := 101 + 8 * (k : Int)) (by omega) (by omega))
  dsimp only at h
  try rw [show (101 + 8 * (k : Int)).toNat = 101 + 8 * k from by omega] at h
  try rw [hO.2.2.1] at h
  have h := zret zy_206 h rfl rfl
  obtain ⟨e1, e2⟩ := oI h
  have h := hO21
  rw [e1, e2] at h
  clear e1 e2
  clear hO21
  have h := zm zy_202 h 1 (q := (cond (crel .ne v ((q : Int))) 26 22, darg 0 [(4, 253), (0, (k : Int))], [], g)) rfl
  dsimp only at h
  rcases zif_ne h with ⟨hc25, h⟩ | ⟨hc25, h⟩
  · have h := zm zy_202 h 1 (q := (27, darg 0 [(4, 253), (0, (k : Int))], [(0, 0)], g)) rfl
    dsimp only at h
    have h := zret zy_202 h rfl rfl
    obtain ⟨e1, e2⟩ := oI h
    have h := hO3
    rw [e1, e2] at h
    clear e1 e2
    clear hO3
    have h := zm zy_292 h 3 (q := (58, dset (dset (dset lf 2 (0, 7)) 1 (0, (k : Int))) 0 (4, 253), [(0, 0), (4, 253)], g)) rfl
    dsimp only at h
    obtain ⟨gz26, rz27, hk, h⟩ := zcallI zy_292 h rfl rfl zy_192 zk_192
    dsimp only at hk h
    have hO28 := h
    have h := hk
    clear hk
    have h := zm zy_192 h 4 (q := (6, darg 0 [(4, 253), (0, 0)], [(0, 0)], cup g 253 2 0)) rfl
    dsimp only at h
    have h := zret zy_192 h rfl rfl
    obtain ⟨e1, e2⟩ := oI h
    have h := hO28
    rw [e1, e2] at h
    clear e1 e2
    clear hO28
    refine Or.inl (⟨hc25, ?_⟩)
    exact zret zy_292 h rfl rfl
  · have h := zm zy_202 h 2 (q := (27, darg 0 [(4, 253), (0, (k : Int))], [(0, 1)], g)) rfl
    dsimp only at h
    have h := zret zy_202 h rfl rfl
    obtain ⟨e1, e2⟩ := oI h
    have h := hO3
    rw [e1, e2] at h
    clear e1 e2
    clear hO3
    have h := zm zy_292 h 3 (q := (58, dset (dset (dset lf 2 (0, 7)) 1 (0, (k : Int))) 0 (4, 253), [(0, 1), (4, 253)], g)) rfl
    dsimp only at h
    obtain ⟨gz29, rz30, hk, h⟩ := zcallI zy_292 h rfl rfl zy_192 zk_192
    dsimp only at hk h
    have hO31 := h
    have h := hk
    clear hk
    have h := zm zy_192 h 4 (q := (6, darg 0 [(4, 253), (0, 1)], [(0, 1)], cup g 253 2 0)) rfl
    dsimp only at h
    have h := zret zy_192 h rfl rfl
    obtain ⟨e1, e2⟩ := oI h
    have h := hO31
    rw [e1, e2] at h
    clear e1 e2
    clear hO31
    refine Or.inr (⟨hc25, ?_⟩)
    exact zret zy_292 h rfl rfl
theorem t_kin0 {sv : Nat → Int32} {L n : Nat} {lf : dlf} {g : cg} {o : cg × Option cv} {a : Int} (h : zr sv L n 287 0 lf [] g o) (hl0 : lf 0 = (4, 0)) (hl1 : lf 1 = (0, a)) : (((a < 0) ∨ (0 ≤ a ∧ g 3 3 ≤ a)) ∧ (o = (cup g 0 0 1, some (0, (-1))))) ∨ ((0 ≤ a ∧ a < g 3 3) ∧ (∃ g_1 r_1, zr sv L n 85 0 (darg 0 [(4, 3), (0, a)]) [] g (g_1, some (0, r_1)) ∧ (o = (cup g_1 0 0 0, some (0, r_1))))) := by
  rw [zov hl0, zov hl1] at h
  have h := zm zy_287 h 3 (q := (5, dset (dset lf 1 (0, a)) 0 (4, 0), [(0, a), (4, 3)], g)) rfl
  dsimp only at h
  obtain ⟨gz1, rz2, hk, h⟩ := zcallI zy_287 h rfl rfl zy_81 zk_81
  dsimp only at hk h
  have hO3 := h
  have h := hk
  clear hk
  have h := zm zy_81 h 2 (q := (cond (crel .lt a 0) 16 4, darg 0 [(4, 3), (0, a)], [], g)) rfl
  dsimp only at h
  rcases zif_lt h with ⟨hc4, h⟩ | ⟨hc4, h⟩
  · have h := zm zy_81 h 1 (q := (17, darg 0 [(4, 3), (0, a)], [(0, 0)], g)) rfl
    dsimp only at h
    have h := zret zy_81 h rfl rfl
    obtain ⟨e1, e2⟩ := oI h
    have h := hO3
    rw [e1, e2] at h
    clear e1 e2
    clear hO3
    have h := zm zy_287 h 3 (q := (28, dset (dset lf 1 (0, a)) 0 (4, 0), [(0, 1), (4, 0)], g)) rfl
    dsimp only at h
    obtain ⟨gz5, rz6, hk, h⟩ := zcallI zy_287 h rfl rfl zy_29 zk_29
    dsimp only at hk h
    have hO7 := h
    have h := hk
    clear hk
    have h := zm zy_29 h 4 (q := (6, darg 0 [(4, 0), (0, 1)], [(0, (-1))], cup g 0 0 1)) rfl
    dsimp only at h
    have h := zret zy_29 h rfl rfl
    obtain ⟨e1, e2⟩ := oI h
    have h := hO7
    rw [e1, e2] at h
    clear e1 e2
    clear hO7
    refine Or.inl (⟨Or.inl (hc4), ?_⟩)
    exact zret zy_287 h rfl rfl
  · have h := zm zy_81 h 4 (q := (cond (crel .ge a (g 3 3)) 16 12, darg 0 [(4, 3), (0, a)], [], g)) rfl
    dsimp only at h
    rcases zif_ge h with ⟨hc8, h⟩ | ⟨hc8, h⟩
    · have h := zm zy_81 h 1 (q := (17, darg 0 [(4, 3), (0, a)], [(0, 0)], g)) rfl
      dsimp only at h
      have h := zret zy_81 h rfl rfl
      obtain ⟨e1, e2⟩ := oI h
      have h := hO3
      rw [e1, e2] at h
      clear e1 e2
      clear hO3
      have h := zm zy_287 h 3 (q := (28, dset (dset lf 1 (0, a)) 0 (4, 0), [(0, 1), (4, 0)], g)) rfl
      dsimp only at h
      obtain ⟨gz9, rz10, hk, h⟩ := zcallI zy_287 h rfl rfl zy_29 zk_29
      dsimp only at hk h
      have hO11 := h
      have h := hk
      clear hk
      have h := zm zy_29 h 4 (q := (6, darg 0 [(4, 0), (0, 1)], [(0, (-1))], cup g 0 0 1)) rfl
      dsimp only at h
      have h := zret zy_29 h rfl rfl
      obtain ⟨e1, e2⟩ := oI h
      have h := hO11
      rw [e1, e2] at h
      clear e1 e2
      clear hO11
      refine Or.inl (⟨Or.inr (⟨hc4, hc8⟩), ?_⟩)
      exact zret zy_287 h rfl rfl
    · have h := zm zy_81 h 2 (q := (17, darg 0 [(4, 3), (0, a)], [(0, 1)], g)) rfl
      dsimp only at h
      have h := zret zy_81 h rfl rfl
      obtain ⟨e1, e2⟩ := oI h
      have h := hO3
      rw [e1, e2] at h
      clear e1 e2
      clear hO3
      have h := zm zy_287 h 5 (q := (17, dset (dset lf 1 (0, a)) 0 (4, 0), [(0, a), (4, 3), (4, 0)], g)) rfl
      dsimp only at h
      obtain ⟨g_1, r_1, hk, h⟩ := zcallI zy_287 h rfl rfl zy_85 zk_85
      dsimp only at hk h
      refine Or.inr (⟨⟨hc4, hc8⟩, ?_⟩)
      refine ⟨g_1, r_1, hk, ?_⟩
      obtain ⟨gz12, rz13, hk, h⟩ := zcallI zy_287 h rfl rfl zy_64 zk_64
      dsimp only at hk h
      have hO14 := h
      have h := hk
      clear hk
      have h := zm zy_64 h 4 (q := (6, darg 0 [(4, 0), (0, r_1)], [(0, r_1)], cup g_1 0 0 0)) rfl
      dsimp only at h
      have h := zret zy_64 h rfl rfl
      obtain ⟨e1, e2⟩ := oI h
      have h := hO14
      rw [e1, e2] at h
      clear e1 e2
      clear hO14
      have h := zm zy_287 h 1 (q := (31, dset (dset lf 1 (0, a)) 0 (4, 0), [(0, r_1)], cup g_1 0 0 0)) rfl
      dsimp only at h
      exact zret zy_287 h rfl rfl
theorem t_cir0 {sv : Nat → Int32} {L n : Nat} {lf : dlf} {g : cg} {o : cg × Option cv} {P : Nat} (rP : P ≤ 5) (h : zr sv L n 85 0 lf [] g o) (hl0 : lf 0 = (4, 3)) (hl1 : lf 1 = (0, (P : Int))) : ∃ lf', lf' 0 = (4, 3) ∧ lf' 2 = (0, bsl 1 ((P : Int))) ∧ lf' 3 = (0, 0) ∧ zr sv L n 85 6 lf' [] g o := by
  rw [zov hl0, zov hl1] at h
  have h := zm zy_85 h 6 (q := (6, dset (dset (dset (dset lf 1 (0, (P : Int))) 0 (4, 3)) 2 (0, bsl 1 ((P : Int)))) 3 (0, 0), [], g)) rfl
  dsimp only at h
  exact ⟨_, rfl, rfl, rfl, h⟩
theorem t_cir_o {sv : Nat → Int32} {L n : Nat} {lf : dlf} {g : cg} {o : cg × Option cv} {y : Nat} {u : Int} (ry : y ≤ 5) (h : zr sv L (n + 1) 85 6 lf [] g o) (hl0 : lf 0 = (4, 3)) (hl2 : lf 2 = (0, u)) (hl3 : lf 3 = (0, (y : Int))) : ∃ lf', lf' 0 = (4, 3) ∧ lf' 2 = (0, u) ∧ lf' 3 = (0, (y : Int)) ∧ lf' 4 = (0, 0) ∧ zr sv L n 85 15 lf' [] g o := by
  rw [zov hl0, zov hl2, zov hl3] at h
  have h := zm1 zy_85 h 2 (q := (cond (crel .ge ((y : Int)) 6) 58 12, dset (dset (dset lf 3 (0, (y : Int))) 2 (0, u)) 0 (4, 3), [], g)) rfl
  dsimp only at h
  rcases zif_ge h with ⟨hc1, h⟩ | ⟨hc1, h⟩
  · exact absurd hc1 (by omega)
  · have h := zm zy_85 h 2 (q := (15, dset (dset (dset (dset lf 3 (0, (y : Int))) 2 (0, u)) 0 (4, 3)) 4 (0, 0), [], g)) rfl
    dsimp only at h
    exact ⟨_, rfl, rfl, rfl, rfl, h⟩
theorem t_cir_x {sv : Nat → Int32} {L n : Nat} {lf : dlf} {g : cg} {o : cg × Option cv} {u : Int} (h : zr sv L (n + 1) 85 6 lf [] g o) (hl0 : lf 0 = (4, 3)) (hl2 : lf 2 = (0, u)) (hl3 : lf 3 = (0, 6)) : o = (g, some (0, u)) := by
  rw [zov hl0, zov hl2, zov hl3] at h
  have h := zm1 zy_85 h 3 (q := (59, dset (dset (dset lf 3 (0, 6)) 2 (0, u)) 0 (4, 3), [(0, u)], g)) rfl
  dsimp only at h
  exact zret zy_85 h rfl rfl
theorem t_cir_s {sv : Nat → Int32} {L n : Nat} {lf : dlf} {g : cg} {o : cg × Option cv} {y k N : Nat} {u fr : Int} (ry : y ≤ 5) (rk : k ≤ 5) (rN : N ≤ 6) (hQ : g 3 3 = (N : Int)) (hf : g (17 + 2 * k) 5 = fr) (hlt : k < N) (h : zr sv L (n + 1) 85 15 lf [] g o) (hl0 : lf 0 = (4, 3)) (hl2 : lf 2 = (0, u)) (hl3 : lf 3 = (0, (y : Int))) (hl4 : lf 4 = (0, (k : Int))) : ((ban (bsr u ((k : Int))) 1 = 0) ∧ (∃ lf', lf' 0 = (4, 3) ∧ lf' 2 = (0, u) ∧ lf' 3 = (0, (y : Int)) ∧ lf' 4 = (0, 1 + (k : Int)) ∧ zr sv L n 85 15 lf' [] g o)) ∨ ((ban (bsr u ((k : Int))) 1 ≠ 0) ∧ (∃ lf', lf' 0 = (4, 3) ∧ lf' 2 = (0, bor u fr) ∧ lf' 3 = (0, (y : Int)) ∧ lf' 4 = (0, 1 + (k : Int)) ∧ zr sv L n 85 15 lf' [] g o)) := by
  rw [zov hl0, zov hl2, zov hl3, zov hl4] at h
  have h := zm1 zy_85 h 3 (q := (cond (crel .ge ((k : Int)) (g 3 3)) 52 24, dset (dset (dset (dset lf 4 (0, (k : Int))) 3 (0, (y : Int))) 2 (0, u)) 0 (4, 3), [], g)) rfl
  dsimp only at h
  try rw [hQ] at h
  rcases zif_ge h with ⟨hc1, h⟩ | ⟨hc1, h⟩
  · exact absurd hc1 (by omega)
  · have h := zm zy_85 h 6 (q := (cond (crel .eq (ban (bsr u ((k : Int))) 1) 0) 46 33, dset (dset (dset (dset lf 4 (0, (k : Int))) 3 (0, (y : Int))) 2 (0, u)) 0 (4, 3), [], g)) rfl
    dsimp only at h
    rcases zif_eq h with ⟨hc2, h⟩ | ⟨hc2, h⟩
    · have h := zm zy_85 h 2 (q := (15, dset (dset (dset (dset (dset lf 4 (0, (k : Int))) 3 (0, (y : Int))) 2 (0, u)) 0 (4, 3)) 4 (0, w32 (((k : Int)) + 1)), [], g)) rfl
      dsimp only at h
      try rw [w32_eq (z := ((k : Int)) + 1) (v := 1 + (k : Int)) (by omega) (by omega) (by omega)] at h
      refine Or.inl (⟨hc2, ?_⟩)
      exact ⟨_, rfl, rfl, rfl, rfl, h⟩
    · have h := zm zy_85 h 4 (q := (40, dset (dset (dset (dset lf 4 (0, (k : Int))) 3 (0, (y : Int))) 2 (0, u)) 0 (4, 3), [(0, (k : Int)), (4, 6), (0, u)], g)) rfl
      dsimp only at h
      have h := zald zy_85 h rfl rfl (dvp_6 (i := (k : Int)) (by omega) (by omega))
      dsimp only at h
      have h := zgf zy_85 h rfl rfl (dvf_17_5 (i := (k : Int)) (by omega) (by omega))
      dsimp only at h
      try rw [show (17 + 2 * ((k : Int))).toNat = 17 + 2 * k from by omega] at h
      try rw [hf] at h
      have h := zm zy_85 h 4 (q := (15, dset (dset (dset (dset (dset (dset lf 4 (0, (k : Int))) 3 (0, (y : Int))) 2 (0, u)) 0 (4, 3)) 2 (0, bor u fr)) 4 (0, w32 (((k : Int)) + 1)), [], g)) rfl
      dsimp only at h
      try rw [w32_eq (z := ((k : Int)) + 1) (v := 1 + (k : Int)) (by omega) (by omega) (by omega)] at h
      refine Or.inr (⟨hc2, ?_⟩)
      exact ⟨_, rfl, rfl, rfl, rfl, h⟩
theorem t_cir_e {sv : Nat → Int32} {L n : Nat} {lf : dlf} {g : cg} {o : cg × Option cv} {y k N : Nat} {u : Int} (ry : y ≤ 5) (rk : k ≤ 6) (rN : N ≤ 6) (hQ : g 3 3 = (N : Int)) (hge : N ≤ k) (h : zr sv L (n + 1) 85 15 lf [] g o) (hl0 : lf 0 = (4, 3)) (hl2 : lf 2 = (0, u)) (hl3 : lf 3 = (0, (y : Int))) (hl4 : lf 4 = (0, (k : Int))) : ∃ lf', lf' 0 = (4, 3) ∧ lf' 2 = (0, u) ∧ lf' 3 = (0, 1 + (y : Int)) ∧ zr sv L n 85 6 lf' [] g o := by
  rw [zov hl0, zov hl2, zov hl3, zov hl4] at h
  have h := zm1 zy_85 h 3 (q := (cond (crel .ge ((k : Int)) (g 3 3)) 52 24, dset (dset (dset (dset lf 4 (0, (k : Int))) 3 (0, (y : Int))) 2 (0, u)) 0 (4, 3), [], g)) rfl
  dsimp only at h
  try rw [hQ] at h
  rcases zif_ge h with ⟨hc1, h⟩ | ⟨hc1, h⟩
  · have h := zm zy_85 h 2 (q := (6, dset (dset (dset (dset (dset lf 4 (0, (k : Int))) 3 (0, (y : Int))) 2 (0, u)) 0 (4, 3)) 3 (0, w32 (((y : Int)) + 1)), [], g)) rfl
    dsimp only at h
    try rw [w32_eq (z := ((y : Int)) + 1) (v := 1 + (y : Int)) (by omega) (by omega) (by omega)] at h
    exact ⟨_, rfl, rfl, rfl, h⟩
  · exact absurd hc1 (by omega)
theorem m_kin0 {sv : Nat → Int32} {L n : Nat} {lf : dlf} {g : cg} {o : cg × Option cv} {a : Int} (h : zr sv L n 288 0 lf [] g o) (hl0 : lf 0 = (4, 253)) (hl1 : lf 1 = (0, a)) : (((a < 0) ∨ (0 ≤ a ∧ g 254 1 ≤ a)) ∧ (o = (cup g 253 2 1, some (0, (-1))))) ∨ ((0 ≤ a ∧ a < g 254 1) ∧ (∃ lf', lf' 0 = (4, 253) ∧ lf' 1 = (0, a) ∧ zr sv L n 288 14 lf' [] g o)) := by
  rw [zov hl0, zov hl1] at h
  have h := zm zy_288 h 2 (q := (2, dset (dset lf 1 (0, a)) 0 (4, 253), [(0, a), (4, 253)], g)) rfl
  dsimp only at h
  obtain ⟨gz1, rz2, hk, h⟩ := zcallI zy_288 h rfl rfl zy_208 zk_208
  dsimp only at hk h
  have hO3 := h
  have h := hk
  clear hk
  have h := zm zy_208 h 2 (q := (cond (crel .lt a 0) 18 4, darg 0 [(4, 253), (0, a)], [], g)) rfl
  dsimp only at h
  rcases zif_lt h with ⟨hc4, h⟩ | ⟨hc4, h⟩
  · have h := zm zy_208 h 1 (q := (19, darg 0 [(4, 253), (0, a)], [(0, 0)], g)) rfl
    dsimp only at h
    have h := zret zy_208 h rfl rfl
    obtain ⟨e1, e2⟩ := oI h
    have h := hO3
    rw [e1, e2] at h
    clear e1 e2
    clear hO3
    have h := zm zy_288 h 3 (q := (10, dset (dset lf 1 (0, a)) 0 (4, 253), [(0, 1), (4, 253)], g)) rfl
    dsimp only at h
    obtain ⟨gz5, rz6, hk, h⟩ := zcallI zy_288 h rfl rfl zy_170 zk_170
    dsimp only at hk h
    have hO7 := h
    have h := hk
    clear hk
    have h := zm zy_170 h 4 (q := (6, darg 0 [(4, 253), (0, 1)], [(0, (-1))], cup g 253 2 1)) rfl
    dsimp only at h
    have h := zret zy_170 h rfl rfl
    obtain ⟨e1, e2⟩ := oI h
    have h := hO7
    rw [e1, e2] at h
    clear e1 e2
    clear hO7
    refine Or.inl (⟨Or.inl (hc4), ?_⟩)
    exact zret zy_288 h rfl rfl
  · have h := zm zy_208 h 6 (q := (cond (crel .ge a (g 254 1)) 18 14, darg 0 [(4, 253), (0, a)], [], g)) rfl
    dsimp only at h
    rcases zif_ge h with ⟨hc8, h⟩ | ⟨hc8, h⟩
    · have h := zm zy_208 h 1 (q := (19, darg 0 [(4, 253), (0, a)], [(0, 0)], g)) rfl
      dsimp only at h
      have h := zret zy_208 h rfl rfl
      obtain ⟨e1, e2⟩ := oI h
      have h := hO3
      rw [e1, e2] at h
      clear e1 e2
      clear hO3
      have h := zm zy_288 h 3 (q := (10, dset (dset lf 1 (0, a)) 0 (4, 253), [(0, 1), (4, 253)], g)) rfl
      dsimp only at h
      obtain ⟨gz9, rz10, hk, h⟩ := zcallI zy_288 h rfl rfl zy_170 zk_170
      dsimp only at hk h
      have hO11 := h
      have h := hk
      clear hk
      have h := zm zy_170 h 4 (q := (6, darg 0 [(4, 253), (0, 1)], [(0, (-1))], cup g 253 2 1)) rfl
      dsimp only at h
      have h := zret zy_170 h rfl rfl
      obtain ⟨e1, e2⟩ := oI h
      have h := hO11
      rw [e1, e2] at h
      clear e1 e2
      clear hO11
      refine Or.inl (⟨Or.inr (⟨hc4, hc8⟩), ?_⟩)
      exact zret zy_288 h rfl rfl
    · have h := zm zy_208 h 2 (q := (19, darg 0 [(4, 253), (0, a)], [(0, 1)], g)) rfl
      dsimp only at h
      have h := zret zy_208 h rfl rfl
      obtain ⟨e1, e2⟩ := oI h
      have h := hO3
      rw [e1, e2] at h
      clear e1 e2
      clear hO3
      have h := zm zy_288 h 1 (q := (14, dset (dset lf 1 (0, a)) 0 (4, 253), [], g)) rfl
      dsimp only at h
      refine Or.inr (⟨⟨hc4, hc8⟩, ?_⟩)
      exact ⟨_, rfl, rfl, h⟩
theorem m_kin14 {sv : Nat → Int32} {L n : Nat} {lf : dlf} {g : cg} {o : cg × Option cv} {P : Nat} (rP : P ≤ 5) (h : zr sv L n 288 14 lf [] g o) (hl0 : lf 0 = (4, 253)) (hl1 : lf 1 = (0, (P : Int))) : ∃ lf', lf' 0 = (4, 253) ∧ lf' 2 = (0, bsl 1 ((P : Int))) ∧ lf' 3 = (0, 0) ∧ zr sv L n 288 20 lf' [] g o := by
  rw [zov hl0, zov hl1] at h
  have h := zm zy_288 h 6 (q := (20, dset (dset (dset (dset lf 1 (0, (P : Int))) 0 (4, 253)) 2 (0, bsl 1 ((P : Int)))) 3 (0, 0), [], g)) rfl
  dsimp only at h
  exact ⟨_, rfl, rfl, rfl, h⟩
theorem m_kin_o {sv : Nat → Int32} {L n : Nat} {lf : dlf} {g : cg} {o : cg × Option cv} {y : Nat} {u : Int} (ry : y ≤ 5) (h : zr sv L (n + 1) 288 20 lf [] g o) (hl0 : lf 0 = (4, 253)) (hl2 : lf 2 = (0, u)) (hl3 : lf 3 = (0, (y : Int))) : ∃ lf', lf' 0 = (4, 253) ∧ lf' 2 = (0, u) ∧ lf' 3 = (0, (y : Int)) ∧ lf' 4 = (0, 0) ∧ zr sv L n 288 29 lf' [] g o := by
  rw [zov hl0, zov hl2, zov hl3] at h
  have h := zm1 zy_288 h 2 (q := (cond (crel .ge ((y : Int)) 6) 77 26, dset (dset (dset lf 3 (0, (y : Int))) 2 (0, u)) 0 (4, 253), [], g)) rfl
  dsimp only at h
  rcases zif_ge h with ⟨hc1, h⟩ | ⟨hc1, h⟩
  · exact absurd hc1 (by omega)
  · have h := zm zy_288 h 2 (q := (29, dset (dset (dset (dset lf 3 (0, (y : Int))) 2 (0, u)) 0 (4, 253)) 4 (0, 0), [], g)) rfl
    dsimp only at h
    exact ⟨_, rfl, rfl, rfl, rfl, h⟩
theorem m_kin_x {sv : Nat → Int32} {L n : Nat} {lf : dlf} {g : cg} {o : cg × Option cv} {u : Int} (h : zr sv L (n + 1) 288 20 lf [] g o) (hl0 : lf 0 = (4, 253)) (hl2 : lf 2 = (0, u)) (hl3 : lf 3 = (0, 6)) : o = (cup g 253 2 0, some (0, u)) := by
  rw [zov hl0, zov hl2, zov hl3] at h
  have h := zm1 zy_288 h 4 (q := (79, dset (dset (dset lf 3 (0, 6)) 2 (0, u)) 0 (4, 253), [(0, u), (4, 253)], g)) rfl
  dsimp only at h
  obtain ⟨gz1, rz2, hk, h⟩ := zcallI zy_288 h rfl rfl zy_192 zk_192
  dsimp only at hk h
  have hO3 := h
  have h := hk
  clear hk
  have h := zm zy_192 h 4 (q := (6, darg 0 [(4, 253), (0, u)], [(0, u)], cup g 253 2 0)) rfl
  dsimp only at h
  have h := zret zy_192 h rfl rfl
  obtain ⟨e1, e2⟩ := oI h
  have h := hO3
  rw [e1, e2] at h
  clear e1 e2
  clear hO3
  exact zret zy_288 h rfl rfl
theorem m_kin_s {sv : Nat → Int32} {L n : Nat} {lf : dlf} {g : cg} {o : cg × Option cv} {y k N : Nat} {u fr : Int} (ry : y ≤ 5) (rk : k ≤ 5) (rN : N ≤ 6) (hQ : g 254 1 = (N : Int)) (hf : g 254 (19 + 6 * k) = fr) (hlt : k < N) (h : zr sv L (n + 1) 288 29 lf [] g o) (hl0 : lf 0 = (4, 253)) (hl2 : lf 2 = (0, u)) (hl3 : lf 3 = (0, (y : Int))) (hl4 : lf 4 = (0, (k : Int))) : ((ban (bsr u ((k : Int))) 1 ≠ 1) ∧ (∃ lf', lf' 0 = (4, 253) ∧ lf' 2 = (0, u) ∧ lf' 3 = (0, (y : Int)) ∧ lf' 4 = (0, 1 + (k : Int)) ∧ zr sv L n 288 29 lf' [] g o)) ∨ ((ban (bsr u ((k : Int))) 1 = 1) ∧ (∃ lf', lf' 0 = (4, 253) ∧ lf' 2 = (0, bor u fr) ∧ lf' 3 = (0, (y : Int)) ∧ lf' 4 = (0, 1 + (k : Int)) ∧ zr sv L n 288 29 lf' [] g o)) := by
  rw [zov hl0, zov hl2, zov hl3, zov hl4] at h
  have h := zm1 zy_288 h 5 (q := (cond (crel .ge ((k : Int)) (g 254 1)) 71 40, dset (dset (dset (dset lf 4 (0, (k : Int))) 3 (0, (y : Int))) 2 (0, u)) 0 (4, 253), [], g)) rfl
  dsimp only at h
  try rw [hQ] at h
  rcases zif_ge h with ⟨hc1, h⟩ | ⟨hc1, h⟩
  · exact absurd hc1 (by omega)
  · have h := zm zy_288 h 3 (q := (44, dset (dset (dset (dset lf 4 (0, (k : Int))) 3 (0, (y : Int))) 2 (0, u)) 0 (4, 253), [(0, (k : Int)), (0, u), (4, 253)], g)) rfl
    dsimp only at h
    obtain ⟨gz2, rz3, hk, h⟩ := zcallI zy_288 h rfl rfl zy_215 zk_215
    dsimp only at hk h
    have hO4 := h
    have h := hk
    clear hk
    have h := zm zy_215 h 7 (q := (cond (crel .ne (ban (bsr u ((k : Int))) 1) 1) 13 9, darg 0 [(4, 253), (0, u), (0, (k : Int))], [], g)) rfl
    dsimp only at h
    rcases zif_ne h with ⟨hc5, h⟩ | ⟨hc5, h⟩
    · have h := zm zy_215 h 1 (q := (14, darg 0 [(4, 253), (0, u), (0, (k : Int))], [(0, 0)], g)) rfl
      dsimp only at h
      have h := zret zy_215 h rfl rfl
      obtain ⟨e1, e2⟩ := oI h
      have h := hO4
      rw [e1, e2] at h
      clear e1 e2
      clear hO4
      have h := zm zy_288 h 3 (q := (29, dset (dset (dset (dset (dset lf 4 (0, (k : Int))) 3 (0, (y : Int))) 2 (0, u)) 0 (4, 253)) 4 (0, w32 (((k : Int)) + 1)), [], g)) rfl
      dsimp only at h
      try rw [w32_eq (z := ((k : Int)) + 1) (v := 1 + (k : Int)) (by omega) (by omega) (by omega)] at h
      refine Or.inl (⟨hc5, ?_⟩)
      exact ⟨_, rfl, rfl, rfl, rfl, h⟩
    · have h := zm zy_215 h 2 (q := (14, darg 0 [(4, 253), (0, u), (0, (k : Int))], [(0, 1)], g)) rfl
      dsimp only at h
      have h := zret zy_215 h rfl rfl
      obtain ⟨e1, e2⟩ := oI h
      have h := hO4
      rw [e1, e2] at h
      clear e1 e2
      clear hO4
      have h := zm zy_288 h 5 (q := (57, dset (dset (dset (dset lf 4 (0, (k : Int))) 3 (0, (y : Int))) 2 (0, u)) 0 (4, 253), [(0, (k : Int)), (4, 254), (0, u)], g)) rfl
      dsimp only at h
      obtain ⟨gz7, rz8, hk, h⟩ := zcallI zy_288 h rfl rfl zy_209 zk_209
      dsimp only at hk h
      have hO9 := h
      have h := hk
      clear hk
      have h := zm zy_209 h 5 (q := (7, darg 0 [(0, (k : Int))], [(0, w32 (15 + (w32 (6 * ((k : Int))))))], g)) rfl
      dsimp only at h
      try rw [w32_eq (z := 6 * ((k : Int))) (v := 6 * (k : Int)) (by omega) (by omega) (by omega)] at h
      try rw [w32_eq (z := 15 + (6 * (k : Int))) (v := 15 + 6 * (k : Int)) (by omega) (by omega) (by omega)] at h
      have h := zret zy_209 h rfl rfl
      obtain ⟨e1, e2⟩ := oI h
      have h := hO9
      rw [e1, e2] at h
      clear e1 e2
      clear hO9
      have h := zm zy_288 h 2 (q := (62, dset (dset (dset (dset lf 4 (0, (k : Int))) 3 (0, (y : Int))) 2 (0, u)) 0 (4, 253), [(0, w32 ((15 + 6 * (k : Int)) + 4)), (4, 254), (0, u)], g)) rfl
      dsimp only at h
      try rw [w32_eq (z := (15 + 6 * (k : Int)) + 4) (v := 19 + 6 * (k : Int)) (by omega) (by omega) (by omega)] at h
      have h := zald zy_288 h rfl rfl (dvb_254 (i := 19 + 6 * (k : Int)) (by omega) (by omega))
      dsimp only at h
      try rw [show (19 + 6 * (k : Int)).toNat = 19 + 6 * k from by omega] at h
      try rw [hf] at h
      have h := zm zy_288 h 4 (q := (29, dset (dset (dset (dset (dset (dset lf 4 (0, (k : Int))) 3 (0, (y : Int))) 2 (0, u)) 0 (4, 253)) 2 (0, bor u fr)) 4 (0, w32 (((k : Int)) + 1)), [], g)) rfl
      dsimp only at h
      try rw [w32_eq (z := ((k : Int)) + 1) (v := 1 + (k : Int)) (by omega) (by omega) (by omega)] at h
      refine Or.inr (⟨hc5, ?_⟩)
      exact ⟨_, rfl, rfl, rfl, rfl, h⟩
theorem m_kin_e {sv : Nat → Int32} {L n : Nat} {lf : dlf} {g : cg} {o : cg × Option cv} {y k N : Nat} {u : Int} (ry : y ≤ 5) (rk : k ≤ 6) (rN : N ≤ 6) (hQ : g 254 1 = (N : Int)) (hge : N ≤ k) (h : zr sv L (n + 1) 288 29 lf [] g o) (hl0 : lf 0 = (4, 253)) (hl2 : lf 2 = (0, u)) (hl3 : lf 3 = (0, (y : Int))) (hl4 : lf 4 = (0, (k : Int))) : ∃ lf', lf' 0 = (4, 253) ∧ lf' 2 = (0, u) ∧ lf' 3 = (0, 1 + (y : Int)) ∧ zr sv L n 288 20 lf' [] g o := by
  rw [zov hl0, zov hl2, zov hl3, zov hl4] at h
  have h := zm1 zy_288 h 5 (q := (cond (crel .ge ((k : Int)) (g 254 1)) 71 40, dset (dset (dset (dset lf 4 (0, (k : Int))) 3 (0, (y : Int))) 2 (0, u)) 0 (4, 253), [], g)) rfl
  dsimp only at h
  try rw [hQ] at h
  rcases zif_ge h with ⟨hc1, h⟩ | ⟨hc1, h⟩
  · have h := zm zy_288 h 2 (q := (20, dset (dset (dset (dset (dset lf 4 (0, (k : Int))) 3 (0, (y : Int))) 2 (0, u)) 0 (4, 253)) 3 (0, w32 (((y : Int)) + 1)), [], g)) rfl
    dsimp only at h
    try rw [w32_eq (z := ((y : Int)) + 1) (v := 1 + (y : Int)) (by omega) (by omega) (by omega)] at h
    exact ⟨_, rfl, rfl, rfl, h⟩
  · exact absurd hc1 (by omega)
theorem t_pe0 {sv : Nat → Int32} {L n : Nat} {lf : dlf} {g : cg} {o : cg × Option cv} {a b : Int} (h : zr sv L n 283 0 lf [] g o) (hl0 : lf 0 = (4, 0)) (hl1 : lf 1 = (0, a)) (hl2 : lf 2 = (0, b)) : (((a < 0) ∨ (0 ≤ a ∧ g 3 3 ≤ a)) ∧ (o = (cup g 0 0 1, some (0, (-1))))) ∨ ((0 ≤ a ∧ a < g 3 3) ∧ (∃ lf', lf' 0 = (4, 0) ∧ lf' 1 = (0, a) ∧ lf' 2 = (0, b) ∧ zr sv L n 283 17 lf' [] g o)) := by
  rw [zov hl0, zov hl1, zov hl2] at h
  have h := zm zy_283 h 3 (q := (5, dset (dset (dset lf 2 (0, b)) 1 (0, a)) 0 (4, 0), [(0, a), (4, 3)], g)) rfl
  dsimp only at h
  obtain ⟨gz1, rz2, hk, h⟩ := zcallI zy_283 h rfl rfl zy_81 zk_81
  dsimp only at hk h
  have hO3 := h
  have h := hk
  clear hk
  have h := zm zy_81 h 2 (q := (cond (crel .lt a 0) 16 4, darg 0 [(4, 3), (0, a)], [], g)) rfl
  dsimp only at h
  rcases zif_lt h with ⟨hc4, h⟩ | ⟨hc4, h⟩
  · have h := zm zy_81 h 1 (q := (17, darg 0 [(4, 3), (0, a)], [(0, 0)], g)) rfl
    dsimp only at h
    have h := zret zy_81 h rfl rfl
    obtain ⟨e1, e2⟩ := oI h
    have h := hO3
    rw [e1, e2] at h
    clear e1 e2
    clear hO3
    have h := zm zy_283 h 3 (q := (13, dset (dset (dset lf 2 (0, b)) 1 (0, a)) 0 (4, 0), [(0, 1), (4, 0)], g)) rfl
    dsimp only at h
    obtain ⟨gz5, rz6, hk, h⟩ := zcallI zy_283 h rfl rfl zy_29 zk_29
    dsimp only at hk h
    have hO7 := h
    have h := hk
    clear hk
    have h := zm zy_29 h 4 (q := (6, darg 0 [(4, 0), (0, 1)], [(0, (-1))], cup g 0 0 1)) rfl
    dsimp only at h
    have h := zret zy_29 h rfl rfl
    obtain ⟨e1, e2⟩ := oI h
    have h := hO7
    rw [e1, e2] at h
    clear e1 e2
    clear hO7
    refine Or.inl (⟨Or.inl (hc4), ?_⟩)
    exact zret zy_283 h rfl rfl
  · have h := zm zy_81 h 4 (q := (cond (crel .ge a (g 3 3)) 16 12, darg 0 [(4, 3), (0, a)], [], g)) rfl
    dsimp only at h
    rcases zif_ge h with ⟨hc8, h⟩ | ⟨hc8, h⟩
    · have h := zm zy_81 h 1 (q := (17, darg 0 [(4, 3), (0, a)], [(0, 0)], g)) rfl
      dsimp only at h
      have h := zret zy_81 h rfl rfl
      obtain ⟨e1, e2⟩ := oI h
      have h := hO3
      rw [e1, e2] at h
      clear e1 e2
      clear hO3
      have h := zm zy_283 h 3 (q := (13, dset (dset (dset lf 2 (0, b)) 1 (0, a)) 0 (4, 0), [(0, 1), (4, 0)], g)) rfl
      dsimp only at h
      obtain ⟨gz9, rz10, hk, h⟩ := zcallI zy_283 h rfl rfl zy_29 zk_29
      dsimp only at hk h
      have hO11 := h
      have h := hk
      clear hk
      have h := zm zy_29 h 4 (q := (6, darg 0 [(4, 0), (0, 1)], [(0, (-1))], cup g 0 0 1)) rfl
      dsimp only at h
      have h := zret zy_29 h rfl rfl
      obtain ⟨e1, e2⟩ := oI h
      have h := hO11
      rw [e1, e2] at h
      clear e1 e2
      clear hO11
      refine Or.inl (⟨Or.inr (⟨hc4, hc8⟩), ?_⟩)
      exact zret zy_283 h rfl rfl
    · have h := zm zy_81 h 2 (q := (17, darg 0 [(4, 3), (0, a)], [(0, 1)], g)) rfl
      dsimp only at h
      have h := zret zy_81 h rfl rfl
      obtain ⟨e1, e2⟩ := oI h
      have h := hO3
      rw [e1, e2] at h
      clear e1 e2
      clear hO3
      have h := zm zy_283 h 1 (q := (17, dset (dset (dset lf 2 (0, b)) 1 (0, a)) 0 (4, 0), [], g)) rfl
      dsimp only at h
      refine Or.inr (⟨⟨hc4, hc8⟩, ?_⟩)
      exact ⟨_, rfl, rfl, rfl, h⟩
theorem t_pe17 {sv : Nat → Int32} {L n : Nat} {lf : dlf} {g : cg} {o : cg × Option cv} {P : Nat} {b pu ch bi tw : Int} (rP : P ≤ 5) (hp1 : g (17 + 2 * P) 1 = pu) (hp2 : g (17 + 2 * P) 2 = ch) (hp3 : g (17 + 2 * P) 3 = bi) (hp4 : g (17 + 2 * P) 4 = tw) (h : zr sv L n 283 17 lf [] g o) (hl0 : lf 0 = (4, 0)) (hl1 : lf 1 = (0, (P : Int))) (hl2 : lf 2 = (0, b)) : ((b = 0) ∧ (o = (cup g 0 0 0, some (0, pu)))) ∨ (((b = 1 ∧ ch = 0) ∨ (b = 2 ∧ bi = 0)) ∧ (o = (cup g 0 0 0, some (0, 0)))) ∨ (((b = 1 ∧ ch ≠ 0) ∨ (b = 2 ∧ bi ≠ 0)) ∧ (o = (cup g 0 0 0, some (0, 1)))) ∨ ((b = 3 ∧ tw ≠ (-1)) ∧ (o = (cup g 0 0 0, some (0, tw)))) ∨ ((b = 3 ∧ tw = (-1)) ∧ (o = (cup g 0 0 6, some (0, (-1))))) ∨ ((b = 4) ∧ (∃ g_1 r_1, zr sv L n 83 0 (darg 0 [(4, 3), (0, (P : Int))]) [] g (g_1, some (0, r_1)) ∧ (o = (cup g_1 0 0 0, some (0, r_1))))) ∨ ((b = 5) ∧ (∃ g_1 r_1, zr sv L n 82 0 (darg 0 [(4, 3), (0, (P : Int))]) [] g (g_1, some (0, r_1)) ∧ (o = (cup g_1 0 0 0, some (0, r_1))))) ∨ (((b < 0 ∨ 5 < b)) ∧ (o = (cup g 0 0 1, some (0, (-1))))) := by
  rw [zov hl0, zov hl1, zov hl2] at h
  have h := zm zy_283 h 4 (q := (25, dset (dset (dset lf 2 (0, b)) 1 (0, (P : Int))) 0 (4, 0), [(0, (P : Int)), (4, 6)], g)) rfl
  dsimp only at h
  have h := zald zy_283 h rfl rfl (dvp_6 (i := (P : Int)) (by omega) (by omega))
  dsimp only at h
  have h := zm zy_283 h 2 (q := (28, dset (dset (dset (dset lf 2 (0, b)) 1 (0, (P : Int))) 0 (4, 0)) 3 (4, 17 + 2 * ((P : Int))), [(0, b)], g)) rfl
  dsimp only at h
  rcases ztab_0_5 (z := b) with hz | hz | hz | hz | hz | hz | hz
  · have hz0 := hz
    have h := ztabv h hz
    have h := zm zy_283 h 1 (q := (68, dset (dset (dset (dset lf 2 (0, b)) 1 (0, (P : Int))) 0 (4, 0)) 3 (4, 17 + 2 * ((P : Int))), [], g)) rfl
    dsimp only at h
    have h := zm zy_283 h 2 (q := (70, dset (dset (dset (dset lf 2 (0, b)) 1 (0, (P : Int))) 0 (4, 0)) 3 (4, 17 + 2 * ((P : Int))), [(4, 17 + 2 * ((P : Int))), (4, 0)], g)) rfl
    dsimp only at h
    have h := zgf zy_283 h rfl rfl (dvf_17_1 (i := (P : Int)) (by omega) (by omega))
    dsimp only at h
    try rw [show (17 + 2 * ((P : Int))).toNat = 17 + 2 * P from by omega] at h
    try rw [hp1] at h
    obtain ⟨gz1, rz2, hk, h⟩ := zcallI zy_283 h rfl rfl zy_64 zk_64
    dsimp only at hk h
    have hO3 := h
    have h := hk
    clear hk
    have h := zm zy_64 h 4 (q := (6, darg 0 [(4, 0), (0, pu)], [(0, pu)], cup g 0 0 0)) rfl
    dsimp only at h
    have h := zret zy_64 h rfl rfl
    obtain ⟨e1, e2⟩ := oI h
    have h := hO3
    rw [e1, e2] at h
    clear e1 e2
    clear hO3
    refine Or.inl (⟨hz0, ?_⟩)
    exact zret zy_283 h rfl rfl
  · have hz0 := hz
    have h := ztabv h hz
    have h := zm zy_283 h 1 (q := (77, dset (dset (dset (dset lf 2 (0, b)) 1 (0, (P : Int))) 0 (4, 0)) 3 (4, 17 + 2 * ((P : Int))), [], g)) rfl
    dsimp only at h
    have h := zm zy_283 h 2 (q := (79, dset (dset (dset (dset lf 2 (0, b)) 1 (0, (P : Int))) 0 (4, 0)) 3 (4, 17 + 2 * ((P : Int))), [(4, 17 + 2 * ((P : Int))), (4, 0)], g)) rfl
    dsimp only at h
    have h := zgf zy_283 h rfl rfl (dvf_17_2 (i := (P : Int)) (by omega) (by omega))
    dsimp only at h
    try rw [show (17 + 2 * ((P : Int))).toNat = 17 + 2 * P from by omega] at h
    try rw [hp2] at h
    have h := zm zy_283 h 1 (q := (cond (crel .eq ch 0) 89 85, dset (dset (dset (dset lf 2 (0, b)) 1 (0, (P : Int))) 0 (4, 0)) 3 (4, 17 + 2 * ((P : Int))), [(4, 0)], g)) rfl
    dsimp only at h
    rcases zif_eq h with ⟨hc4, h⟩ | ⟨hc4, h⟩
    · have h := zm zy_283 h 1 (q := (90, dset (dset (dset (dset lf 2 (0, b)) 1 (0, (P : Int))) 0 (4, 0)) 3 (4, 17 + 2 * ((P : Int))), [(0, 0), (4, 0)], g)) rfl
      dsimp only at h
      obtain ⟨gz5, rz6, hk, h⟩ := zcallI zy_283 h rfl rfl zy_64 zk_64
      dsimp only at hk h
      have hO7 := h
      have h := hk
      clear hk
      have h := zm zy_64 h 4 (q := (6, darg 0 [(4, 0), (0, 0)], [(0, 0)], cup g 0 0 0)) rfl
      dsimp only at h
      have h := zret zy_64 h rfl rfl
      obtain ⟨e1, e2⟩ := oI h
      have h := hO7
      rw [e1, e2] at h
      clear e1 e2
      clear hO7
      refine Or.inr (Or.inl (⟨Or.inl (⟨hz0, hc4⟩), ?_⟩))
      exact zret zy_283 h rfl rfl
    · have h := zm zy_283 h 2 (q := (90, dset (dset (dset (dset lf 2 (0, b)) 1 (0, (P : Int))) 0 (4, 0)) 3 (4, 17 + 2 * ((P : Int))), [(0, 1), (4, 0)], g)) rfl
      dsimp only at h
      obtain ⟨gz8, rz9, hk, h⟩ := zcallI zy_283 h rfl rfl zy_64 zk_64
      dsimp only at hk h
      have hO10 := h
      have h := hk
      clear hk
      have h := zm zy_64 h 4 (q := (6, darg 0 [(4, 0), (0, 1)], [(0, 1)], cup g 0 0 0)) rfl
      dsimp only at h
      have h := zret zy_64 h rfl rfl
      obtain ⟨e1, e2⟩ := oI h
      have h := hO10
      rw [e1, e2] at h
      clear e1 e2
      clear hO10
      refine Or.inr (Or.inr (Or.inl (⟨Or.inl (⟨hz0, hc4⟩), ?_⟩)))
      exact zret zy_283 h rfl rfl
  · have hz0 := hz
    have h := ztabv h hz
    have h := zm zy_283 h 1 (q := (94, dset (dset (dset (dset lf 2 (0, b)) 1 (0, (P : Int))) 0 (4, 0)) 3 (4, 17 + 2 * ((P : Int))), [], g)) rfl
    dsimp only at h
    have h := zm zy_283 h 2 (q := (96, dset (dset (dset (dset lf 2 (0, b)) 1 (0, (P : Int))) 0 (4, 0)) 3 (4, 17 + 2 * ((P : Int))), [(4, 17 + 2 * ((P : Int))), (4, 0)], g)) rfl
    dsimp only at h
    have h := zgf zy_283 h rfl rfl (dvf_17_3 (i := (P : Int)) (by omega) (by omega))
    dsimp only at h
    try rw [show (17 + 2 * ((P : Int))).toNat = 17 + 2 * P from by omega] at h
    try rw [hp3] at h
    have h := zm zy_283 h 1 (q := (cond (crel .eq bi 0) 106 102, dset (dset (dset (dset lf 2 (0, b)) 1 (0, (P : Int))) 0 (4, 0)) 3 (4, 17 + 2 * ((P : Int))), [(4, 0)], g)) rfl
    dsimp only at h
    rcases zif_eq h with ⟨hc11, h⟩ | ⟨hc11, h⟩
    · have h := zm zy_283 h 1 (q := (107, dset (dset (dset (dset lf 2 (0, b)) 1 (0, (P : Int))) 0 (4, 0)) 3 (4, 17 + 2 * ((P : Int))), [(0, 0), (4, 0)], g)) rfl
      dsimp only at h
      obtain ⟨gz12, rz13, hk, h⟩ := zcallI zy_283 h rfl rfl zy_64 zk_64
      dsimp only at hk h
      have hO14 := h
      have h := hk
      clear hk
      have h := zm zy_64 h 4 (q := (6, darg 0 [(4, 0), (0, 0)], [(0, 0)], cup g 0 0 0)) rfl
      dsimp only at h
      have h := zret zy_64 h rfl rfl
      obtain ⟨e1, e2⟩ := oI h
      have h := hO14
      rw [e1, e2] at h
      clear e1 e2
      clear hO14
      refine Or.inr (Or.inl (⟨Or.inr (⟨hz0, hc11⟩), ?_⟩))
      exact zret zy_283 h rfl rfl
    · have h := zm zy_283 h 2 (q := (107, dset (dset (dset (dset lf 2 (0, b)) 1 (0, (P : Int))) 0 (4, 0)) 3 (4, 17 + 2 * ((P : Int))), [(0, 1), (4, 0)], g)) rfl
      dsimp only at h
      obtain ⟨gz15, rz16, hk, h⟩ := zcallI zy_283 h rfl rfl zy_64 zk_64
      dsimp only at hk h
      have hO17 := h
      have h := hk
      clear hk
      have h := zm zy_64 h 4 (q := (6, darg 0 [(4, 0), (0, 1)], [(0, 1)], cup g 0 0 0)) rfl
      dsimp only at h
      have h := zret zy_64 h rfl rfl
      obtain ⟨e1, e2⟩ := oI h
      have h := hO17
      rw [e1, e2] at h
      clear e1 e2
      clear hO17
      refine Or.inr (Or.inr (Or.inl (⟨Or.inr (⟨hz0, hc11⟩), ?_⟩)))
      exact zret zy_283 h rfl rfl
  · have hz0 := hz
    have h := ztabv h hz
    have h := zm zy_283 h 1 (q := (111, dset (dset (dset (dset lf 2 (0, b)) 1 (0, (P : Int))) 0 (4, 0)) 3 (4, 17 + 2 * ((P : Int))), [], g)) rfl
    dsimp only at h
    have h := zm zy_283 h 1 (q := (112, dset (dset (dset (dset lf 2 (0, b)) 1 (0, (P : Int))) 0 (4, 0)) 3 (4, 17 + 2 * ((P : Int))), [(4, 17 + 2 * ((P : Int)))], g)) rfl
    dsimp only at h
    have h := zgf zy_283 h rfl rfl (dvf_17_4 (i := (P : Int)) (by omega) (by omega))
    dsimp only at h
    try rw [show (17 + 2 * ((P : Int))).toNat = 17 + 2 * P from by omega] at h
    try rw [hp4] at h
    have h := zm zy_283 h 2 (q := (cond (crel .ne tw ((-1))) 128 119, dset (dset (dset (dset lf 2 (0, b)) 1 (0, (P : Int))) 0 (4, 0)) 3 (4, 17 + 2 * ((P : Int))), [], g)) rfl
    dsimp only at h
    rcases zif_ne h with ⟨hc18, h⟩ | ⟨hc18, h⟩
    · have h := zm zy_283 h 2 (q := (130, dset (dset (dset (dset lf 2 (0, b)) 1 (0, (P : Int))) 0 (4, 0)) 3 (4, 17 + 2 * ((P : Int))), [(4, 17 + 2 * ((P : Int))), (4, 0)], g)) rfl
      dsimp only at h
      have h := zgf zy_283 h rfl rfl (dvf_17_4 (i := (P : Int)) (by omega) (by omega))
      dsimp only at h
      try rw [show (17 + 2 * ((P : Int))).toNat = 17 + 2 * P from by omega] at h
      try rw [hp4] at h
      obtain ⟨gz19, rz20, hk, h⟩ := zcallI zy_283 h rfl rfl zy_64 zk_64
      dsimp only at hk h
      have hO21 := h
      have h := hk
      clear hk
      have h := zm zy_64 h 4 (q := (6, darg 0 [(4, 0), (0, tw)], [(0, tw)], cup g 0 0 0)) rfl
      dsimp only at h
      have h := zret zy_64 h rfl rfl
      obtain ⟨e1, e2⟩ := oI h
      have h := hO21
      rw [e1, e2] at h
      clear e1 e2
      clear hO21
      refine Or.inr (Or.inr (Or.inr (Or.inl (⟨⟨hz0, hc18⟩, ?_⟩))))
      exact zret zy_283 h rfl rfl
    · have h := zm zy_283 h 2 (q := (122, dset (dset (dset (dset lf 2 (0, b)) 1 (0, (P : Int))) 0 (4, 0)) 3 (4, 17 + 2 * ((P : Int))), [(0, 6), (4, 0)], g)) rfl
      dsimp only at h
      obtain ⟨gz22, rz23, hk, h⟩ := zcallI zy_283 h rfl rfl zy_29 zk_29
      dsimp only at hk h
      have hO24 := h
      have h := hk
      clear hk
      have h := zm zy_29 h 4 (q := (6, darg 0 [(4, 0), (0, 6)], [(0, (-1))], cup g 0 0 6)) rfl
      dsimp only at h
      have h := zret zy_29 h rfl rfl
      obtain ⟨e1, e2⟩ := oI h
      have h := hO24
      rw [e1, e2] at h
      clear e1 e2
      clear hO24
      have h := zm zy_283 h 1 (q := (136, dset (dset (dset (dset lf 2 (0, b)) 1 (0, (P : Int))) 0 (4, 0)) 3 (4, 17 + 2 * ((P : Int))), [(0, (-1))], cup g 0 0 6)) rfl
      dsimp only at h
      refine Or.inr (Or.inr (Or.inr (Or.inr (Or.inl (⟨⟨hz0, hc18⟩, ?_⟩)))))
      exact zret zy_283 h rfl rfl
  · have hz0 := hz
    have h := ztabv h hz
    have h := zm zy_283 h 1 (q := (137, dset (dset (dset (dset lf 2 (0, b)) 1 (0, (P : Int))) 0 (4, 0)) 3 (4, 17 + 2 * ((P : Int))), [], g)) rfl
    dsimp only at h
    have h := zm zy_283 h 4 (q := (143, dset (dset (dset (dset lf 2 (0, b)) 1 (0, (P : Int))) 0 (4, 0)) 3 (4, 17 + 2 * ((P : Int))), [(0, (P : Int)), (4, 3), (4, 0)], g)) rfl
    dsimp only at h
    obtain ⟨g_1, r_1, hk, h⟩ := zcallI zy_283 h rfl rfl zy_83 zk_83
    dsimp only at hk h
    refine Or.inr (Or.inr (Or.inr (Or.inr (Or.inr (Or.inl (⟨hz0, ?_⟩))))))
    refine ⟨g_1, r_1, hk, ?_⟩
    obtain ⟨gz25, rz26, hk, h⟩ := zcallI zy_283 h rfl rfl zy_64 zk_64
    dsimp only at hk h
    have hO27 := h
    have h := hk
    clear hk
    have h := zm zy_64 h 4 (q := (6, darg 0 [(4, 0), (0, r_1)], [(0, r_1)], cup g_1 0 0 0)) rfl
    dsimp only at h
    have h := zret zy_64 h rfl rfl
    obtain ⟨e1, e2⟩ := oI h
    have h := hO27
    rw [e1, e2] at h
    clear e1 e2
    clear hO27
    exact zret zy_283 h rfl rfl
  · have hz0 := hz
    have h := ztabv h hz
    have h := zm zy_283 h 1 (q := (150, dset (dset (dset (dset lf 2 (0, b)) 1 (0, (P : Int))) 0 (4, 0)) 3 (4, 17 + 2 * ((P : Int))), [], g)) rfl
    dsimp only at h
    have h := zm zy_283 h 4 (q := (156, dset (dset (dset (dset lf 2 (0, b)) 1 (0, (P : Int))) 0 (4, 0)) 3 (4, 17 + 2 * ((P : Int))), [(0, (P : Int)), (4, 3), (4, 0)], g)) rfl
    dsimp only at h
    obtain ⟨g_1, r_1, hk, h⟩ := zcallI zy_283 h rfl rfl zy_82 zk_82
    dsimp only at hk h
    refine Or.inr (Or.inr (Or.inr (Or.inr (Or.inr (Or.inr (Or.inl (⟨hz0, ?_⟩)))))))
    refine ⟨g_1, r_1, hk, ?_⟩
    obtain ⟨gz28, rz29, hk, h⟩ := zcallI zy_283 h rfl rfl zy_64 zk_64
    dsimp only at hk h
    have hO30 := h
    have h := hk
    clear hk
    have h := zm zy_64 h 4 (q := (6, darg 0 [(4, 0), (0, r_1)], [(0, r_1)], cup g_1 0 0 0)) rfl
    dsimp only at h
    have h := zret zy_64 h rfl rfl
    obtain ⟨e1, e2⟩ := oI h
    have h := hO30
    rw [e1, e2] at h
    clear e1 e2
    clear hO30
    exact zret zy_283 h rfl rfl
  · have hz0 := hz
    have h := ztabd h zy_283 rfl hz (by decide)
    have h := zm zy_283 h 2 (q := (165, dset (dset (dset (dset lf 2 (0, b)) 1 (0, (P : Int))) 0 (4, 0)) 3 (4, 17 + 2 * ((P : Int))), [(0, 1), (4, 0)], g)) rfl
    dsimp only at h
    obtain ⟨gz31, rz32, hk, h⟩ := zcallI zy_283 h rfl rfl zy_29 zk_29
    dsimp only at hk h
    have hO33 := h
    have h := hk
    clear hk
    have h := zm zy_29 h 4 (q := (6, darg 0 [(4, 0), (0, 1)], [(0, (-1))], cup g 0 0 1)) rfl
    dsimp only at h
    have h := zret zy_29 h rfl rfl
    obtain ⟨e1, e2⟩ := oI h
    have h := hO33
    rw [e1, e2] at h
    clear e1 e2
    clear hO33
    refine Or.inr (Or.inr (Or.inr (Or.inr (Or.inr (Or.inr (Or.inr (⟨hz0, ?_⟩)))))))
    exact zret zy_283 h rfl rfl
theorem t_swb0 {sv : Nat → Int32} {L n : Nat} {lf : dlf} {g : cg} {o : cg × Option cv} {P : Nat} (rP : P ≤ 5) (h : zr sv L n 83 0 lf [] g o) (hl0 : lf 0 = (4, 3)) (hl1 : lf 1 = (0, (P : Int))) : ∃ lf', lf' 0 = (4, 3) ∧ lf' 1 = (0, (P : Int)) ∧ lf' 2 = (0, 0) ∧ lf' 3 = (0, 0) ∧ zr sv L n 83 4 lf' [] g o := by
  rw [zov hl0, zov hl1] at h
  have h := zm zy_83 h 4 (q := (4, dset (dset (dset (dset lf 1 (0, (P : Int))) 0 (4, 3)) 2 (0, 0)) 3 (0, 0), [], g)) rfl
  dsimp only at h
  exact ⟨_, rfl, rfl, rfl, rfl, h⟩
theorem t_swb_s {sv : Nat → Int32} {L n : Nat} {lf : dlf} {g : cg} {o : cg × Option cv} {P c w p q t k N : Nat} {f s b : Int} (rP : P ≤ 5) (rc : c ≤ 15) (rw : w ≤ 5) (rp : p ≤ 5) (rq : q ≤ 4) (rt : t ≤ 7) (rk : k ≤ 15) (rN : N ≤ 16) (hN : g 3 9 = (N : Int)) (hO : OHC g k w p q t f s b) (hlt : k < N) (h : zr sv L (n + 1) 83 4 lf [] g o) (hl0 : lf 0 = (4, 3)) (hl1 : lf 1 = (0, (P : Int))) (hl2 : lf 2 = (0, (c : Int))) (hl3 : lf 3 = (0, (k : Int))) : (((w : Int) ≠ (P : Int)) ∧ (∃ lf', lf' 0 = (4, 3) ∧ lf' 1 = (0, (P : Int)) ∧ lf' 2 = (0, (c : Int)) ∧ lf' 3 = (0, 1 + (k : Int)) ∧ zr sv L n 83 4 lf' [] g o)) ∨ (((w : Int) = (P : Int)) ∧ (∃ lf', lf' 0 = (4, 3) ∧ lf' 1 = (0, (P : Int)) ∧ lf' 2 = (0, 1 + (c : Int)) ∧ lf' 3 = (0, 1 + (k : Int)) ∧ zr sv L n 83 4 lf' [] g o)) := by
  rw [zov hl0, zov hl1, zov hl2, zov hl3] at h
  have h := zm1 zy_83 h 3 (q := (cond (crel .ge ((k : Int)) (g 3 9)) 34 12, dset (dset (dset (dset lf 3 (0, (k : Int))) 2 (0, (c : Int))) 1 (0, (P : Int))) 0 (4, 3), [], g)) rfl
  dsimp only at h
  try rw [hN] at h
  rcases zif_ge h with ⟨hc1, h⟩ | ⟨hc1, h⟩
  · exact absurd hc1 (by omega)
  · have h := zm zy_83 h 3 (q := (17, dset (dset (dset (dset lf 3 (0, (k : Int))) 2 (0, (c : Int))) 1 (0, (P : Int))) 0 (4, 3), [(0, (k : Int)), (4, 7)], g)) rfl
    dsimp only at h
    have h := zald zy_83 h rfl rfl (dvp_7 (i := (k : Int)) (by omega) (by omega))
    dsimp only at h
    have h := zgf zy_83 h rfl rfl (dvf_29_0 (i := (k : Int)) (by omega) (by omega))
    dsimp only at h
    try rw [show (29 + ((k : Int))).toNat = 29 + k from by omega] at h
    try rw [hO.1] at h
    have h := zm zy_83 h 2 (q := (cond (crel .ne ((w : Int)) ((P : Int))) 28 25, dset (dset (dset (dset lf 3 (0, (k : Int))) 2 (0, (c : Int))) 1 (0, (P : Int))) 0 (4, 3), [], g)) rfl
    dsimp only at h
    rcases zif_ne h with ⟨hc2, h⟩ | ⟨hc2, h⟩
    · have h := zm zy_83 h 2 (q := (4, dset (dset (dset (dset (dset lf 3 (0, (k : Int))) 2 (0, (c : Int))) 1 (0, (P : Int))) 0 (4, 3)) 3 (0, w32 (((k : Int)) + 1)), [], g)) rfl
      dsimp only at h
      try rw [w32_eq (z := ((k : Int)) + 1) (v := 1 + (k : Int)) (by omega) (by omega) (by omega)] at h
      refine Or.inl (⟨hc2, ?_⟩)
      exact ⟨_, rfl, rfl, rfl, rfl, h⟩
    · have h := zm zy_83 h 3 (q := (4, dset (dset (dset (dset (dset (dset lf 3 (0, (k : Int))) 2 (0, (c : Int))) 1 (0, (P : Int))) 0 (4, 3)) 2 (0, w32 (((c : Int)) + 1))) 3 (0, w32 (((k : Int)) + 1)), [], g)) rfl
      dsimp only at h
      try rw [w32_eq (z := ((c : Int)) + 1) (v := 1 + (c : Int)) (by omega) (by omega) (by omega)] at h
      try rw [w32_eq (z := ((k : Int)) + 1) (v := 1 + (k : Int)) (by omega) (by omega) (by omega)] at h
      refine Or.inr (⟨hc2, ?_⟩)
      exact ⟨_, rfl, rfl, rfl, rfl, h⟩
theorem t_swb_e {sv : Nat → Int32} {L n : Nat} {lf : dlf} {g : cg} {o : cg × Option cv} {P c k N : Nat} (rP : P ≤ 5) (rc : c ≤ 16) (rk : k ≤ 16) (rN : N ≤ 16) (hN : g 3 9 = (N : Int)) (hge : N ≤ k) (h : zr sv L (n + 1) 83 4 lf [] g o) (hl0 : lf 0 = (4, 3)) (hl1 : lf 1 = (0, (P : Int))) (hl2 : lf 2 = (0, (c : Int))) (hl3 : lf 3 = (0, (k : Int))) : o = (g, some (0, (c : Int))) := by
  rw [zov hl0, zov hl1, zov hl2, zov hl3] at h
  have h := zm1 zy_83 h 3 (q := (cond (crel .ge ((k : Int)) (g 3 9)) 34 12, dset (dset (dset (dset lf 3 (0, (k : Int))) 2 (0, (c : Int))) 1 (0, (P : Int))) 0 (4, 3), [], g)) rfl
  dsimp only at h
  try rw [hN] at h
  rcases zif_ge h with ⟨hc1, h⟩ | ⟨hc1, h⟩
  · have h := zm zy_83 h 1 (q := (35, dset (dset (dset (dset lf 3 (0, (k : Int))) 2 (0, (c : Int))) 1 (0, (P : Int))) 0 (4, 3), [(0, (c : Int))], g)) rfl
    dsimp only at h
    exact zret zy_83 h rfl rfl
  · exact absurd hc1 (by omega)
theorem t_spb0 {sv : Nat → Int32} {L n : Nat} {lf : dlf} {g : cg} {o : cg × Option cv} {P : Nat} (rP : P ≤ 5) (h : zr sv L n 82 0 lf [] g o) (hl0 : lf 0 = (4, 3)) (hl1 : lf 1 = (0, (P : Int))) : ∃ lf', lf' 0 = (4, 3) ∧ lf' 1 = (0, (P : Int)) ∧ lf' 2 = (0, 0) ∧ lf' 3 = (0, 0) ∧ zr sv L n 82 4 lf' [] g o := by
  rw [zov hl0, zov hl1] at h
  have h := zm zy_82 h 4 (q := (4, dset (dset (dset (dset lf 1 (0, (P : Int))) 0 (4, 3)) 2 (0, 0)) 3 (0, 0), [], g)) rfl
  dsimp only at h
  exact ⟨_, rfl, rfl, rfl, rfl, h⟩
theorem t_spb_s {sv : Nat → Int32} {L n : Nat} {lf : dlf} {g : cg} {o : cg × Option cv} {P w p q t k N : Nat} {f s b u : Int} (rP : P ≤ 5) (rw : w ≤ 5) (rp : p ≤ 5) (rq : q ≤ 4) (rt : t ≤ 7) (rk : k ≤ 15) (rN : N ≤ 16) (hN : g 3 9 = (N : Int)) (hO : OHC g k w p q t f s b) (hlt : k < N) (h : zr sv L (n + 1) 82 4 lf [] g o) (hl0 : lf 0 = (4, 3)) (hl1 : lf 1 = (0, (P : Int))) (hl2 : lf 2 = (0, u)) (hl3 : lf 3 = (0, (k : Int))) : ((((w : Int) ≠ (P : Int)) ∨ ((w : Int) = (P : Int) ∧ b ≠ 0)) ∧ (∃ lf', lf' 0 = (4, 3) ∧ lf' 1 = (0, (P : Int)) ∧ lf' 2 = (0, u) ∧ lf' 3 = (0, 1 + (k : Int)) ∧ zr sv L n 82 4 lf' [] g o)) ∨ (((w : Int) = (P : Int) ∧ b = 0) ∧ (∃ lf', lf' 0 = (4, 3) ∧ lf' 1 = (0, (P : Int)) ∧ lf' 2 = (0, w32 (u + f)) ∧ lf' 3 = (0, 1 + (k : Int)) ∧ zr sv L n 82 4 lf' [] g o)) := by
  rw [zov hl0, zov hl1, zov hl2, zov hl3] at h
  have h := zm1 zy_82 h 3 (q := (cond (crel .ge ((k : Int)) (g 3 9)) 55 12, dset (dset (dset (dset lf 3 (0, (k : Int))) 2 (0, u)) 1 (0, (P : Int))) 0 (4, 3), [], g)) rfl
  dsimp only at h
  try rw [hN] at h
  rcases zif_ge h with ⟨hc1, h⟩ | ⟨hc1, h⟩
  · exact absurd hc1 (by omega)
  · have h := zm zy_82 h 3 (q := (17, dset (dset (dset (dset lf 3 (0, (k : Int))) 2 (0, u)) 1 (0, (P : Int))) 0 (4, 3), [(0, (k : Int)), (4, 7)], g)) rfl
    dsimp only at h
    have h := zald zy_82 h rfl rfl (dvp_7 (i := (k : Int)) (by omega) (by omega))
    dsimp only at h
    have h := zgf zy_82 h rfl rfl (dvf_29_0 (i := (k : Int)) (by omega) (by omega))
    dsimp only at h
    try rw [show (29 + ((k : Int))).toNat = 29 + k from by omega] at h
    try rw [hO.1] at h
    have h := zm zy_82 h 2 (q := (cond (crel .ne ((w : Int)) ((P : Int))) 49 25, dset (dset (dset (dset lf 3 (0, (k : Int))) 2 (0, u)) 1 (0, (P : Int))) 0 (4, 3), [], g)) rfl
    dsimp only at h
    rcases zif_ne h with ⟨hc2, h⟩ | ⟨hc2, h⟩
    · have h := zm zy_82 h 2 (q := (4, dset (dset (dset (dset (dset lf 3 (0, (k : Int))) 2 (0, u)) 1 (0, (P : Int))) 0 (4, 3)) 3 (0, w32 (((k : Int)) + 1)), [], g)) rfl
      dsimp only at h
      try rw [w32_eq (z := ((k : Int)) + 1) (v := 1 + (k : Int)) (by omega) (by omega) (by omega)] at h
      refine Or.inl (⟨Or.inl (hc2), ?_⟩)
      exact ⟨_, rfl, rfl, rfl, rfl, h⟩
    · have h := zm zy_82 h 3 (q := (30, dset (dset (dset (dset lf 3 (0, (k : Int))) 2 (0, u)) 1 (0, (P : Int))) 0 (4, 3), [(0, (k : Int)), (4, 7)], g)) rfl
      dsimp only at h
      have h := zald zy_82 h rfl rfl (dvp_7 (i := (k : Int)) (by omega) (by omega))
      dsimp only at h
      have h := zgf zy_82 h rfl rfl (dvf_29_6 (i := (k : Int)) (by omega) (by omega))
      dsimp only at h
      try rw [show (29 + ((k : Int))).toNat = 29 + k from by omega] at h
      try rw [hO.2.2.2.2.2.2] at h
      have h := zm zy_82 h 1 (q := (cond (crel .ne b 0) 49 37, dset (dset (dset (dset lf 3 (0, (k : Int))) 2 (0, u)) 1 (0, (P : Int))) 0 (4, 3), [], g)) rfl
      dsimp only at h
      rcases zif_ne h with ⟨hc4, h⟩ | ⟨hc4, h⟩
      · have h := zm zy_82 h 2 (q := (4, dset (dset (dset (dset (dset lf 3 (0, (k : Int))) 2 (0, u)) 1 (0, (P : Int))) 0 (4, 3)) 3 (0, w32 (((k : Int)) + 1)), [], g)) rfl
        dsimp only at h
        try rw [w32_eq (z := ((k : Int)) + 1) (v := 1 + (k : Int)) (by omega) (by omega) (by omega)] at h
        refine Or.inl (⟨Or.inr (⟨hc2, hc4⟩), ?_⟩)
        exact ⟨_, rfl, rfl, rfl, rfl, h⟩
      · have h := zm zy_82 h 4 (q := (43, dset (dset (dset (dset lf 3 (0, (k : Int))) 2 (0, u)) 1 (0, (P : Int))) 0 (4, 3), [(0, (k : Int)), (4, 7), (0, u)], g)) rfl
        dsimp only at h
        have h := zald zy_82 h rfl rfl (dvp_7 (i := (k : Int)) (by omega) (by omega))
        dsimp only at h
        have h := zgf zy_82 h rfl rfl (dvf_29_4 (i := (k : Int)) (by omega) (by omega))
        dsimp only at h
        try rw [show (29 + ((k : Int))).toNat = 29 + k from by omega] at h
        try rw [hO.2.2.2.2.1] at h
        have h := zm zy_82 h 4 (q := (4, dset (dset (dset (dset (dset (dset lf 3 (0, (k : Int))) 2 (0, u)) 1 (0, (P : Int))) 0 (4, 3)) 2 (0, w32 (u + f))) 3 (0, w32 (((k : Int)) + 1)), [], g)) rfl
        dsimp only at h
        try rw [w32_eq (z := ((k : Int)) + 1) (v := 1 + (k : Int)) (by omega) (by omega) (by omega)] at h
        refine Or.inr (⟨⟨hc2, hc4⟩, ?_⟩)
        exact ⟨_, rfl, rfl, rfl, rfl, h⟩
theorem t_spb_e {sv : Nat → Int32} {L n : Nat} {lf : dlf} {g : cg} {o : cg × Option cv} {P k N : Nat} {u : Int} (rP : P ≤ 5) (rk : k ≤ 16) (rN : N ≤ 16) (hN : g 3 9 = (N : Int)) (hge : N ≤ k) (h : zr sv L (n + 1) 82 4 lf [] g o) (hl0 : lf 0 = (4, 3)) (hl1 : lf 1 = (0, (P : Int))) (hl2 : lf 2 = (0, u)) (hl3 : lf 3 = (0, (k : Int))) : o = (g, some (0, u)) := by
  rw [zov hl0, zov hl1, zov hl2, zov hl3] at h
  have h := zm1 zy_82 h 3 (q := (cond (crel .ge ((k : Int)) (g 3 9)) 55 12, dset (dset (dset (dset lf 3 (0, (k : Int))) 2 (0, u)) 1 (0, (P : Int))) 0 (4, 3), [], g)) rfl
  dsimp only at h
  try rw [hN] at h
  rcases zif_ge h with ⟨hc1, h⟩ | ⟨hc1, h⟩
  · have h := zm zy_82 h 1 (q := (56, dset (dset (dset (dset lf 3 (0, (k : Int))) 2 (0, u)) 1 (0, (P : Int))) 0 (4, 3), [(0, u)], g)) rfl
    dsimp only at h
    exact zret zy_82 h rfl rfl
  · exact absurd hc1 (by omega)
theorem m_pe0 {sv : Nat → Int32} {L n : Nat} {lf : dlf} {g : cg} {o : cg × Option cv} {a b : Int} (h : zr sv L n 284 0 lf [] g o) (hl0 : lf 0 = (4, 253)) (hl1 : lf 1 = (0, a)) (hl2 : lf 2 = (0, b)) : (((a < 0) ∨ (0 ≤ a ∧ g 254 1 ≤ a) ∨ (0 ≤ a ∧ a < g 254 1 ∧ b < 0) ∨ (0 ≤ a ∧ a < g 254 1 ∧ 0 ≤ b ∧ 5 < b)) ∧ (o = (cup g 253 2 1, some (0, (-1))))) ∨ ((0 ≤ a ∧ a < g 254 1 ∧ 0 ≤ b ∧ b ≤ 5) ∧ (∃ lf', lf' 0 = (4, 253) ∧ lf' 1 = (0, a) ∧ lf' 2 = (0, b) ∧ zr sv L n 284 23 lf' [] g o)) := by
  rw [zov hl0, zov hl1, zov hl2] at h
  have h := zm zy_284 h 2 (q := (2, dset (dset (dset lf 2 (0, b)) 1 (0, a)) 0 (4, 253), [(0, a), (4, 253)], g)) rfl
  dsimp only at h
  obtain ⟨gz1, rz2, hk, h⟩ := zcallI zy_284 h rfl rfl zy_208 zk_208
  dsimp only at hk h
  have hO3 := h
  have h := hk
  clear hk
  have h := zm zy_208 h 2 (q := (cond (crel .lt a 0) 18 4, darg 0 [(4, 253), (0, a)], [], g)) rfl
  dsimp only at h
  rcases zif_lt h with ⟨hc4, h⟩ | ⟨hc4, h⟩
  · have h := zm zy_208 h 1 (q := (19, darg 0 [(4, 253), (0, a)], [(0, 0)], g)) rfl
    dsimp only at h
    have h := zret zy_208 h rfl rfl
    obtain ⟨e1, e2⟩ := oI h
    have h := hO3
    rw [e1, e2] at h
    clear e1 e2
    clear hO3
    have h := zm zy_284 h 3 (q := (19, dset (dset (dset lf 2 (0, b)) 1 (0, a)) 0 (4, 253), [(0, 1), (4, 253)], g)) rfl
    dsimp only at h
    obtain ⟨gz5, rz6, hk, h⟩ := zcallI zy_284 h rfl rfl zy_170 zk_170
    dsimp only at hk h
    have hO7 := h
    have h := hk
    clear hk
    have h := zm zy_170 h 4 (q := (6, darg 0 [(4, 253), (0, 1)], [(0, (-1))], cup g 253 2 1)) rfl
    dsimp only at h
    have h := zret zy_170 h rfl rfl
    obtain ⟨e1, e2⟩ := oI h
    have h := hO7
    rw [e1, e2] at h
    clear e1 e2
    clear hO7
    refine Or.inl (⟨Or.inl (hc4), ?_⟩)
    exact zret zy_284 h rfl rfl
  · have h := zm zy_208 h 6 (q := (cond (crel .ge a (g 254 1)) 18 14, darg 0 [(4, 253), (0, a)], [], g)) rfl
    dsimp only at h
    rcases zif_ge h with ⟨hc8, h⟩ | ⟨hc8, h⟩
    · have h := zm zy_208 h 1 (q := (19, darg 0 [(4, 253), (0, a)], [(0, 0)], g)) rfl
      dsimp only at h
      have h := zret zy_208 h rfl rfl
      obtain ⟨e1, e2⟩ := oI h
      have h := hO3
      rw [e1, e2] at h
      clear e1 e2
      clear hO3
      have h := zm zy_284 h 3 (q := (19, dset (dset (dset lf 2 (0, b)) 1 (0, a)) 0 (4, 253), [(0, 1), (4, 253)], g)) rfl
      dsimp only at h
      obtain ⟨gz9, rz10, hk, h⟩ := zcallI zy_284 h rfl rfl zy_170 zk_170
      dsimp only at hk h
      have hO11 := h
      have h := hk
      clear hk
      have h := zm zy_170 h 4 (q := (6, darg 0 [(4, 253), (0, 1)], [(0, (-1))], cup g 253 2 1)) rfl
      dsimp only at h
      have h := zret zy_170 h rfl rfl
      obtain ⟨e1, e2⟩ := oI h
      have h := hO11
      rw [e1, e2] at h
      clear e1 e2
      clear hO11
      refine Or.inl (⟨Or.inr (Or.inl (⟨hc4, hc8⟩)), ?_⟩)
      exact zret zy_284 h rfl rfl
    · have h := zm zy_208 h 2 (q := (19, darg 0 [(4, 253), (0, a)], [(0, 1)], g)) rfl
      dsimp only at h
      have h := zret zy_208 h rfl rfl
      obtain ⟨e1, e2⟩ := oI h
      have h := hO3
      rw [e1, e2] at h
      clear e1 e2
      clear hO3
      have h := zm zy_284 h 3 (q := (cond (crel .lt b 0) 17 12, dset (dset (dset lf 2 (0, b)) 1 (0, a)) 0 (4, 253), [], g)) rfl
      dsimp only at h
      rcases zif_lt h with ⟨hc12, h⟩ | ⟨hc12, h⟩
      · have h := zm zy_284 h 2 (q := (19, dset (dset (dset lf 2 (0, b)) 1 (0, a)) 0 (4, 253), [(0, 1), (4, 253)], g)) rfl
        dsimp only at h
        obtain ⟨gz13, rz14, hk, h⟩ := zcallI zy_284 h rfl rfl zy_170 zk_170
        dsimp only at hk h
        have hO15 := h
        have h := hk
        clear hk
        have h := zm zy_170 h 4 (q := (6, darg 0 [(4, 253), (0, 1)], [(0, (-1))], cup g 253 2 1)) rfl
        dsimp only at h
        have h := zret zy_170 h rfl rfl
        obtain ⟨e1, e2⟩ := oI h
        have h := hO15
        rw [e1, e2] at h
        clear e1 e2
        clear hO15
        refine Or.inl (⟨Or.inr (Or.inr (Or.inl (⟨hc4, hc8, hc12⟩))), ?_⟩)
        exact zret zy_284 h rfl rfl
      · have h := zm zy_284 h 3 (q := (cond (crel .le b 5) 23 17, dset (dset (dset lf 2 (0, b)) 1 (0, a)) 0 (4, 253), [], g)) rfl
        dsimp only at h
        rcases zif_le h with ⟨hc16, h⟩ | ⟨hc16, h⟩
        · refine Or.inr (⟨⟨hc4, hc8, hc12, hc16⟩, ?_⟩)
          exact ⟨_, rfl, rfl, rfl, h⟩
        · have h := zm zy_284 h 2 (q := (19, dset (dset (dset lf 2 (0, b)) 1 (0, a)) 0 (4, 253), [(0, 1), (4, 253)], g)) rfl
          dsimp only at h
          obtain ⟨gz18, rz19, hk, h⟩ := zcallI zy_284 h rfl rfl zy_170 zk_170
          dsimp only at hk h
          have hO20 := h
          have h := hk
          clear hk
          have h := zm zy_170 h 4 (q := (6, darg 0 [(4, 253), (0, 1)], [(0, (-1))], cup g 253 2 1)) rfl
          dsimp only at h
          have h := zret zy_170 h rfl rfl
          obtain ⟨e1, e2⟩ := oI h
          have h := hO20
          rw [e1, e2] at h
          clear e1 e2
          clear hO20
          refine Or.inl (⟨Or.inr (Or.inr (Or.inr (⟨hc4, hc8, hc12, hc16⟩))), ?_⟩)
          exact zret zy_284 h rfl rfl
theorem m_pe23_0 {sv : Nat → Int32} {L n : Nat} {lf : dlf} {g : cg} {o : cg × Option cv} {P : Nat} {pu ch bi tw : Int} (rP : P ≤ 5) (hp1 : g 254 (15 + 6 * P) = pu) (hp2 : g 254 (16 + 6 * P) = ch) (hp3 : g 254 (17 + 6 * P) = bi) (hp4 : g 254 (18 + 6 * P) = tw) (h : zr sv L n 284 23 lf [] g o) (hl0 : lf 0 = (4, 253)) (hl1 : lf 1 = (0, (P : Int))) (hl2 : lf 2 = (0, 0)) : o = (cup g 253 2 0, some (0, pu)) := by
  rw [zov hl0, zov hl1, zov hl2] at h
  have h := zm zy_284 h 7 (q := (34, dset (dset (dset lf 2 (0, 0)) 1 (0, (P : Int))) 0 (4, 253), [(0, (P : Int)), (4, 254), (4, 253)], g)) rfl
  dsimp only at h
  obtain ⟨gz1, rz2, hk, h⟩ := zcallI zy_284 h rfl rfl zy_209 zk_209
  dsimp only at hk h
  have hO3 := h
  have h := hk
  clear hk
  have h := zm zy_209 h 5 (q := (7, darg 0 [(0, (P : Int))], [(0, w32 (15 + (w32 (6 * ((P : Int))))))], g)) rfl
  dsimp only at h
  try rw [w32_eq (z := 6 * ((P : Int))) (v := 6 * (P : Int)) (by omega) (by omega) (by omega)] at h
  try rw [w32_eq (z := 15 + (6 * (P : Int))) (v := 15 + 6 * (P : Int)) (by omega) (by omega) (by omega)] at h
  have h := zret zy_209 h rfl rfl
  obtain ⟨e1, e2⟩ := oI h
  have h := hO3
  rw [e1, e2] at h
  clear e1 e2
  clear hO3
  have h := zm zy_284 h 2 (q := (39, dset (dset (dset lf 2 (0, 0)) 1 (0, (P : Int))) 0 (4, 253), [(0, w32 ((15 + 6 * (P : Int)) + 0)), (4, 254), (4, 253)], g)) rfl
  dsimp only at h
  try rw [w32_eq (z := (15 + 6 * (P : Int)) + 0) (v := 15 + 6 * (P : Int)) (by omega) (by omega) (by omega)] at h
  have h := zald zy_284 h rfl rfl (dvb_254 (i := 15 + 6 * (P : Int)) (by omega) (by omega))
  dsimp only at h
  try rw [show (15 + 6 * (P : Int)).toNat = 15 + 6 * P from by omega] at h
  try rw [hp1] at h
  obtain ⟨gz4, rz5, hk, h⟩ := zcallI zy_284 h rfl rfl zy_192 zk_192
  dsimp only at hk h
  have hO6 := h
  have h := hk
  clear hk
  have h := zm zy_192 h 4 (q := (6, darg 0 [(4, 253), (0, pu)], [(0, pu)], cup g 253 2 0)) rfl
  dsimp only at h
  have h := zret zy_192 h rfl rfl
  obtain ⟨e1, e2⟩ := oI h
  have h := hO6
  rw [e1, e2] at h
  clear e1 e2
  clear hO6
  exact zret zy_284 h rfl rfl
theorem m_pe23_1 {sv : Nat → Int32} {L n : Nat} {lf : dlf} {g : cg} {o : cg × Option cv} {P : Nat} {pu ch bi tw : Int} (rP : P ≤ 5) (hp1 : g 254 (15 + 6 * P) = pu) (hp2 : g 254 (16 + 6 * P) = ch) (hp3 : g 254 (17 + 6 * P) = bi) (hp4 : g 254 (18 + 6 * P) = tw) (h : zr sv L n 284 23 lf [] g o) (hl0 : lf 0 = (4, 253)) (hl1 : lf 1 = (0, (P : Int))) (hl2 : lf 2 = (0, 1)) : o = (cup g 253 2 0, some (0, ch)) := by
  rw [zov hl0, zov hl1, zov hl2] at h
  have h := zm zy_284 h 7 (q := (34, dset (dset (dset lf 2 (0, 1)) 1 (0, (P : Int))) 0 (4, 253), [(0, (P : Int)), (4, 254), (4, 253)], g)) rfl
  dsimp only at h
  obtain ⟨gz1, rz2, hk, h⟩ := zcallI zy_284 h rfl rfl zy_209 zk_209
  dsimp only at hk h
  have hO3 := h
  have h := hk
  clear hk
  have h := zm zy_209 h 5 (q := (7, darg 0 [(0, (P : Int))], [(0, w32 (15 + (w32 (6 * ((P : Int))))))], g)) rfl
  dsimp only at h
  try rw [w32_eq (z := 6 * ((P : Int))) (v := 6 * (P : Int)) (by omega) (by omega) (by omega)] at h
  try rw [w32_eq (z := 15 + (6 * (P : Int))) (v := 15 + 6 * (P : Int)) (by omega) (by omega) (by omega)] at h
  have h := zret zy_209 h rfl rfl
  obtain ⟨e1, e2⟩ := oI h
  have h := hO3
  rw [e1, e2] at h
  clear e1 e2
  clear hO3
  have h := zm zy_284 h 2 (q := (39, dset (dset (dset lf 2 (0, 1)) 1 (0, (P : Int))) 0 (4, 253), [(0, w32 ((15 + 6 * (P : Int)) + 1)), (4, 254), (4, 253)], g)) rfl
  dsimp only at h
  try rw [w32_eq (z := (15 + 6 * (P : Int)) + 1) (v := 16 + 6 * (P : Int)) (by omega) (by omega) (by omega)] at h
  have h := zald zy_284 h rfl rfl (dvb_254 (i := 16 + 6 * (P : Int)) (by omega) (by omega))
  dsimp only at h
  try rw [show (16 + 6 * (P : Int)).toNat = 16 + 6 * P from by omega] at h
  try rw [hp2] at h
  obtain ⟨gz4, rz5, hk, h⟩ := zcallI zy_284 h rfl rfl zy_192 zk_192
  dsimp only at hk h
  have hO6 := h
  have h := hk
  clear hk
  have h := zm zy_192 h 4 (q := (6, darg 0 [(4, 253), (0, ch)], [(0, ch)], cup g 253 2 0)) rfl
  dsimp only at h
  have h := zret zy_192 h rfl rfl
  obtain ⟨e1, e2⟩ := oI h
  have h := hO6
  rw [e1, e2] at h
  clear e1 e2
  clear hO6
  exact zret zy_284 h rfl rfl
theorem m_pe23_2 {sv : Nat → Int32} {L n : Nat} {lf : dlf} {g : cg} {o : cg × Option cv} {P : Nat} {pu ch bi tw : Int} (rP : P ≤ 5) (hp1 : g 254 (15 + 6 * P) = pu) (hp2 : g 254 (16 + 6 * P) = ch) (hp3 : g 254 (17 + 6 * P) = bi) (hp4 : g 254 (18 + 6 * P) = tw) (h : zr sv L n 284 23 lf [] g o) (hl0 : lf 0 = (4, 253)) (hl1 : lf 1 = (0, (P : Int))) (hl2 : lf 2 = (0, 2)) : o = (cup g 253 2 0, some (0, bi)) := by
  rw [zov hl0, zov hl1, zov hl2] at h
  have h := zm zy_284 h 7 (q := (34, dset (dset (dset lf 2 (0, 2)) 1 (0, (P : Int))) 0 (4, 253), [(0, (P : Int)), (4, 254), (4, 253)], g)) rfl
  dsimp only at h
  obtain ⟨gz1, rz2, hk, h⟩ := zcallI zy_284 h rfl rfl zy_209 zk_209
  dsimp only at hk h
  have hO3 := h
  have h := hk
  clear hk
  have h := zm zy_209 h 5 (q := (7, darg 0 [(0, (P : Int))], [(0, w32 (15 + (w32 (6 * ((P : Int))))))], g)) rfl
  dsimp only at h
  try rw [w32_eq (z := 6 * ((P : Int))) (v := 6 * (P : Int)) (by omega) (by omega) (by omega)] at h
  try rw [w32_eq (z := 15 + (6 * (P : Int))) (v := 15 + 6 * (P : Int)) (by omega) (by omega) (by omega)] at h
  have h := zret zy_209 h rfl rfl
  obtain ⟨e1, e2⟩ := oI h
  have h := hO3
  rw [e1, e2] at h
  clear e1 e2
  clear hO3
  have h := zm zy_284 h 2 (q := (39, dset (dset (dset lf 2 (0, 2)) 1 (0, (P : Int))) 0 (4, 253), [(0, w32 ((15 + 6 * (P : Int)) + 2)), (4, 254), (4, 253)], g)) rfl
  dsimp only at h
  try rw [w32_eq (z := (15 + 6 * (P : Int)) + 2) (v := 17 + 6 * (P : Int)) (by omega) (by omega) (by omega)] at h
  have h := zald zy_284 h rfl rfl (dvb_254 (i := 17 + 6 * (P : Int)) (by omega) (by omega))
  dsimp only at h
  try rw [show (17 + 6 * (P : Int)).toNat = 17 + 6 * P from by omega] at h
  try rw [hp3] at h
  obtain ⟨gz4, rz5, hk, h⟩ := zcallI zy_284 h rfl rfl zy_192 zk_192
  dsimp only at hk h
  have hO6 := h
  have h := hk
  clear hk
  have h := zm zy_192 h 4 (q := (6, darg 0 [(4, 253), (0, bi)], [(0, bi)], cup g 253 2 0)) rfl
  dsimp only at h
  have h := zret zy_192 h rfl rfl
  obtain ⟨e1, e2⟩ := oI h
  have h := hO6
  rw [e1, e2] at h
  clear e1 e2
  clear hO6
  exact zret zy_284 h rfl rfl
theorem m_pe23_3 {sv : Nat → Int32} {L n : Nat} {lf : dlf} {g : cg} {o : cg × Option cv} {P : Nat} {pu ch bi tw : Int} (rP : P ≤ 5) (hp1 : g 254 (15 + 6 * P) = pu) (hp2 : g 254 (16 + 6 * P) = ch) (hp3 : g 254 (17 + 6 * P) = bi) (hp4 : g 254 (18 + 6 * P) = tw) (h : zr sv L n 284 23 lf [] g o) (hl0 : lf 0 = (4, 253)) (hl1 : lf 1 = (0, (P : Int))) (hl2 : lf 2 = (0, 3)) : ((tw ≠ (-1)) ∧ (o = (cup g 253 2 0, some (0, tw)))) ∨ ((tw = (-1)) ∧ (o = (cup g 253 2 6, some (0, (-1))))) := by
  rw [zov hl0, zov hl1, zov hl2] at h
  have h := zm zy_284 h 10 (q := (55, dset (dset (dset lf 2 (0, 3)) 1 (0, (P : Int))) 0 (4, 253), [(0, (P : Int)), (4, 254), (4, 253)], g)) rfl
  dsimp only at h
  obtain ⟨gz1, rz2, hk, h⟩ := zcallI zy_284 h rfl rfl zy_209 zk_209
  dsimp only at hk h
  have hO3 := h
  have h := hk
  clear hk
  have h := zm zy_209 h 5 (q := (7, darg 0 [(0, (P : Int))], [(0, w32 (15 + (w32 (6 * ((P : Int))))))], g)) rfl
  dsimp only at h
  try rw [w32_eq (z := 6 * ((P : Int))) (v := 6 * (P : Int)) (by omega) (by omega) (by omega)] at h
  try rw [w32_eq (z := 15 + (6 * (P : Int))) (v := 15 + 6 * (P : Int)) (by omega) (by omega) (by omega)] at h
  have h := zret zy_209 h rfl rfl
  obtain ⟨e1, e2⟩ := oI h
  have h := hO3
  rw [e1, e2] at h
  clear e1 e2
  clear hO3
  have h := zm zy_284 h 2 (q := (60, dset (dset (dset lf 2 (0, 3)) 1 (0, (P : Int))) 0 (4, 253), [(0, w32 ((15 + 6 * (P : Int)) + 3)), (4, 254), (4, 253)], g)) rfl
  dsimp only at h
  try rw [w32_eq (z := (15 + 6 * (P : Int)) + 3) (v := 18 + 6 * (P : Int)) (by omega) (by omega) (by omega)] at h
  have h := zald zy_284 h rfl rfl (dvb_254 (i := 18 + 6 * (P : Int)) (by omega) (by omega))
  dsimp only at h
  try rw [show (18 + 6 * (P : Int)).toNat = 18 + 6 * P from by omega] at h
  try rw [hp4] at h
  obtain ⟨gz4, rz5, hk, h⟩ := zcallI zy_284 h rfl rfl zy_210 zk_210
  dsimp only at hk h
  have hO6 := h
  have h := hk
  clear hk
  have h := zm zy_210 h 3 (q := (cond (crel .ne tw ((-1))) 14 5, darg 0 [(4, 253), (0, tw)], [], g)) rfl
  dsimp only at h
  rcases zif_ne h with ⟨hc7, h⟩ | ⟨hc7, h⟩
  · have h := zm zy_210 h 2 (q := (16, darg 0 [(4, 253), (0, tw)], [(0, tw), (4, 253)], g)) rfl
    dsimp only at h
    obtain ⟨gz8, rz9, hk, h⟩ := zcallI zy_210 h rfl rfl zy_192 zk_192
    dsimp only at hk h
    have hO10 := h
    have h := hk
    clear hk
    have h := zm zy_192 h 4 (q := (6, darg 0 [(4, 253), (0, tw)], [(0, tw)], cup g 253 2 0)) rfl
    dsimp only at h
    have h := zret zy_192 h rfl rfl
    obtain ⟨e1, e2⟩ := oI h
    have h := hO10
    rw [e1, e2] at h
    clear e1 e2
    clear hO10
    have h := zret zy_210 h rfl rfl
    obtain ⟨e1, e2⟩ := oI h
    have h := hO6
    rw [e1, e2] at h
    clear e1 e2
    clear hO6
    refine Or.inl (⟨hc7, ?_⟩)
    exact zret zy_284 h rfl rfl
  · have h := zm zy_210 h 2 (q := (8, darg 0 [(4, 253), (0, tw)], [(0, 6), (4, 253)], g)) rfl
    dsimp only at h
    obtain ⟨gz11, rz12, hk, h⟩ := zcallI zy_210 h rfl rfl zy_170 zk_170
    dsimp only at hk h
    have hO13 := h
    have h := hk
    clear hk
    have h := zm zy_170 h 4 (q := (6, darg 0 [(4, 253), (0, 6)], [(0, (-1))], cup g 253 2 6)) rfl
    dsimp only at h
    have h := zret zy_170 h rfl rfl
    obtain ⟨e1, e2⟩ := oI h
    have h := hO13
    rw [e1, e2] at h
    clear e1 e2
    clear hO13
    have h := zm zy_210 h 1 (q := (19, darg 0 [(4, 253), (0, tw)], [(0, (-1))], cup g 253 2 6)) rfl
    dsimp only at h
    have h := zret zy_210 h rfl rfl
    obtain ⟨e1, e2⟩ := oI h
    have h := hO6
    rw [e1, e2] at h
    clear e1 e2
    clear hO6
    refine Or.inr (⟨hc7, ?_⟩)
    exact zret zy_284 h rfl rfl
theorem m_pe23_4 {sv : Nat → Int32} {L n : Nat} {lf : dlf} {g : cg} {o : cg × Option cv} {P : Nat} (rP : P ≤ 5) (h : zr sv L n 284 23 lf [] g o) (hl0 : lf 0 = (4, 253)) (hl1 : lf 1 = (0, (P : Int))) (hl2 : lf 2 = (0, 4)) : ∃ lf', lf' 0 = (4, 253) ∧ lf' 1 = (0, (P : Int)) ∧ lf' 2 = (0, 4) ∧ lf' 3 = (0, 0) ∧ lf' 4 = (0, 0) ∧ lf' 5 = (0, 0) ∧ zr sv L n 284 73 lf' [] g o := by
  rw [zov hl0, zov hl1, zov hl2] at h
  have h := zm zy_284 h 12 (q := (73, dset (dset (dset (dset (dset (dset lf 2 (0, 4)) 1 (0, (P : Int))) 0 (4, 253)) 3 (0, 0)) 4 (0, 0)) 5 (0, 0), [], g)) rfl
  dsimp only at h
  exact ⟨_, rfl, rfl, rfl, rfl, rfl, rfl, h⟩
theorem m_pe4_s {sv : Nat → Int32} {L n : Nat} {lf : dlf} {g : cg} {o : cg × Option cv} {P w p q t k N c : Nat} {f s b u : Int} (rP : P ≤ 5) (rw : w ≤ 5) (rp : p ≤ 5) (rq : q ≤ 4) (rt : t ≤ 7) (rk : k ≤ 15) (rN : N ≤ 16) (rc : c ≤ 15) (hN : g 254 2 = (N : Int)) (hO : OHM g k w p q t f s b) (hlt : k < N) (h : zr sv L (n + 1) 284 73 lf [] g o) (hl0 : lf 0 = (4, 253)) (hl1 : lf 1 = (0, (P : Int))) (hl2 : lf 2 = (0, 4)) (hl3 : lf 3 = (0, (c : Int))) (hl4 : lf 4 = (0, u)) (hl5 : lf 5 = (0, (k : Int))) : (((w : Int) = (P : Int) ∧ b ≠ 1) ∧ (∃ lf', lf' 0 = (4, 253) ∧ lf' 1 = (0, (P : Int)) ∧ lf' 2 = (0, 4) ∧ lf' 3 = (0, 1 + (c : Int)) ∧ lf' 4 = (0, w32 (u + f)) ∧ lf' 5 = (0, 1 + (k : Int)) ∧ zr sv L n 284 73 lf' [] g o)) ∨ (((w : Int) = (P : Int) ∧ b = 1) ∧ (∃ lf', lf' 0 = (4, 253) ∧ lf' 1 = (0, (P : Int)) ∧ lf' 2 = (0, 4) ∧ lf' 3 = (0, 1 + (c : Int)) ∧ lf' 4 = (0, w32 (u + 0)) ∧ lf' 5 = (0, 1 + (k : Int)) ∧ zr sv L n 284 73 lf' [] g o)) ∨ (((w : Int) ≠ (P : Int)) ∧ (∃ lf', lf' 0 = (4, 253) ∧ lf' 1 = (0, (P : Int)) ∧ lf' 2 = (0, 4) ∧ lf' 3 = (0, (c : Int)) ∧ lf' 4 = (0, u) ∧ lf' 5 = (0, 1 + (k : Int)) ∧ zr sv L n 284 73 lf' [] g o)) := by
  rw [zov hl0, zov hl1, zov hl2, zov hl3, zov hl4, zov hl5] at h
  have h := zm1 zy_284 h 5 (q := (cond (crel .ge ((k : Int)) (g 254 2)) 138 84, dset (dset (dset (dset (dset (dset lf 5 (0, (k : Int))) 4 (0, u)) 3 (0, (c : Int))) 2 (0, 4)) 1 (0, (P : Int))) 0 (4, 253), [], g)) rfl
  dsimp only at h
  try rw [hN] at h
  rcases zif_ge h with ⟨hc1, h⟩ | ⟨hc1, h⟩
  · exact absurd hc1 (by omega)
  · have h := zm zy_284 h 2 (q := (87, dset (dset (dset (dset (dset (dset lf 5 (0, (k : Int))) 4 (0, u)) 3 (0, (c : Int))) 2 (0, 4)) 1 (0, (P : Int))) 0 (4, 253), [(0, (k : Int)), (4, 253)], g)) rfl
    dsimp only at h
    obtain ⟨gz2, rz3, hk, h⟩ := zcallI zy_284 h rfl rfl zy_211 zk_211
    dsimp only at hk h
    have hO4 := h
    have h := hk
    clear hk
    have h := zm zy_211 h 3 (q := (5, darg 0 [(4, 253), (0, (k : Int))], [(0, (k : Int)), (4, 254)], g)) rfl
    dsimp only at h
    obtain ⟨gz5, rz6, hk, h⟩ := zcallI zy_211 h rfl rfl zy_199 zk_199
    dsimp only at hk h
    have hO7 := h
    have h := hk
    clear hk
    have h := zm zy_199 h 5 (q := (7, darg 0 [(0, (k : Int))], [(0, w32 (99 + (w32 (8 * ((k : Int))))))], g)) rfl
    dsimp only at h
    try rw [w32_eq (z := 8 * ((k : Int))) (v := 8 * (k : Int)) (by omega) (by omega) (by omega)] at h
    try rw [w32_eq (z := 99 + (8 * (k : Int))) (v := 99 + 8 * (k : Int)) (by omega) (by omega) (by omega)] at h
    have h := zret zy_199 h rfl rfl
    obtain ⟨e1, e2⟩ := oI h
    have h := hO7
    rw [e1, e2] at h
    clear e1 e2
    clear hO7
    have h := zald zy_211 h rfl rfl (dvb_254 (i := 99 + 8 * (k : Int)) (by omega) (by omega))
    dsimp only at h
    try rw [show (99 + 8 * (k : Int)).toNat = 99 + 8 * k from by omega] at h
    try rw [hO.1] at h
    have h := zret zy_211 h rfl rfl
    obtain ⟨e1, e2⟩ := oI h
    have h := hO4
    rw [e1, e2] at h
    clear e1 e2
    clear hO4
    have h := zm zy_284 h 2 (q := (cond (crel .eq ((w : Int)) ((P : Int))) 97 94, dset (dset (dset (dset (dset (dset lf 5 (0, (k : Int))) 4 (0, u)) 3 (0, (c : Int))) 2 (0, 4)) 1 (0, (P : Int))) 0 (4, 253), [], g)) rfl
    dsimp only at h
    rcases zif_eq h with ⟨hc8, h⟩ | ⟨hc8, h⟩
    · have h := zm zy_284 h 5 (q := (108, dset (dset (dset (dset (dset (dset (dset lf 5 (0, (k : Int))) 4 (0, u)) 3 (0, (c : Int))) 2 (0, 4)) 1 (0, (P : Int))) 0 (4, 253)) 3 (0, w32 (((c : Int)) + 1)), [(0, (k : Int)), (4, 254), (0, u)], g)) rfl
      dsimp only at h
      try rw [w32_eq (z := ((c : Int)) + 1) (v := 1 + (c : Int)) (by omega) (by omega) (by omega)] at h
      obtain ⟨gz9, rz10, hk, h⟩ := zcallI zy_284 h rfl rfl zy_199 zk_199
      dsimp only at hk h
      have hO11 := h
      have h := hk
      clear hk
      have h := zm zy_199 h 5 (q := (7, darg 0 [(0, (k : Int))], [(0, w32 (99 + (w32 (8 * ((k : Int))))))], g)) rfl
      dsimp only at h
      try rw [w32_eq (z := 8 * ((k : Int))) (v := 8 * (k : Int)) (by omega) (by omega) (by omega)] at h
      try rw [w32_eq (z := 99 + (8 * (k : Int))) (v := 99 + 8 * (k : Int)) (by omega) (by omega) (by omega)] at h
      have h := zret zy_199 h rfl rfl
      obtain ⟨e1, e2⟩ := oI h
      have h := hO11
      rw [e1, e2] at h
      clear e1 e2
      clear hO11
      have h := zm zy_284 h 2 (q := (114, dset (dset (dset (dset (dset (dset (dset lf 5 (0, (k : Int))) 4 (0, u)) 3 (0, (c : Int))) 2 (0, 4)) 1 (0, (P : Int))) 0 (4, 253)) 3 (0, 1 + (c : Int)), [(0, w32 ((99 + 8 * (k : Int)) + 6)), (4, 254), (0, u)], g)) rfl
      dsimp only at h
      try rw [w32_eq (z := (99 + 8 * (k : Int)) + 6) (v := 105 + 8 * (k : Int)) (by omega) (by omega) (by omega)] at h
      have h := zald zy_284 h rfl rfl (dvb_254 (i := 105 + 8 * (k : Int)) (by omega) (by omega))
      dsimp only at h
      try rw [show (105 + 8 * (k : Int)).toNat = 105 + 8 * k from by omega] at h
      try rw [hO.2.2.2.2.2.2] at h
      have h := zm zy_284 h 2 (q := (cond (crel .ne b 1) 123 119, dset (dset (dset (dset (dset (dset (dset lf 5 (0, (k : Int))) 4 (0, u)) 3 (0, (c : Int))) 2 (0, 4)) 1 (0, (P : Int))) 0 (4, 253)) 3 (0, 1 + (c : Int)), [(0, u)], g)) rfl
      dsimp only at h
      rcases zif_ne h with ⟨hc12, h⟩ | ⟨hc12, h⟩
      · have h := zm zy_284 h 2 (q := (126, dset (dset (dset (dset (dset (dset (dset lf 5 (0, (k : Int))) 4 (0, u)) 3 (0, (c : Int))) 2 (0, 4)) 1 (0, (P : Int))) 0 (4, 253)) 3 (0, 1 + (c : Int)), [(0, (k : Int)), (4, 253), (0, u)], g)) rfl
        dsimp only at h
        obtain ⟨gz13, rz14, hk, h⟩ := zcallI zy_284 h rfl rfl zy_212 zk_212
        dsimp only at hk h
        have hO15 := h
        have h := hk
        clear hk
        have h := zm zy_212 h 3 (q := (5, darg 0 [(4, 253), (0, (k : Int))], [(0, (k : Int)), (4, 254)], g)) rfl
        dsimp only at h
        obtain ⟨gz16, rz17, hk, h⟩ := zcallI zy_212 h rfl rfl zy_199 zk_199
        dsimp only at hk h
        have hO18 := h
        have h := hk
        clear hk
        have h := zm zy_199 h 5 (q := (7, darg 0 [(0, (k : Int))], [(0, w32 (99 + (w32 (8 * ((k : Int))))))], g)) rfl
        dsimp only at h
        try rw [w32_eq (z := 8 * ((k : Int))) (v := 8 * (k : Int)) (by omega) (by omega) (by omega)] at h
        try rw [w32_eq (z := 99 + (8 * (k : Int))) (v := 99 + 8 * (k : Int)) (by omega) (by omega) (by omega)] at h
        have h := zret zy_199 h rfl rfl
        obtain ⟨e1, e2⟩ := oI h
        have h := hO18
        rw [e1, e2] at h
        clear e1 e2
        clear hO18
        have h := zm zy_212 h 2 (q := (10, darg 0 [(4, 253), (0, (k : Int))], [(0, w32 ((99 + 8 * (k : Int)) + 4)), (4, 254)], g)) rfl
        dsimp only at h
        try rw [w32_eq (z := (99 + 8 * (k : Int)) + 4) (v := 103 + 8 * (k : Int)) (by omega) (by omega) (by omega)] at h
        have h := zald zy_212 h rfl rfl (dvb_254 (i := 103 + 8 * (k : Int)) (by omega) (by omega))
        dsimp only at h
        try rw [show (103 + 8 * (k : Int)).toNat = 103 + 8 * k from by omega] at h
        try rw [hO.2.2.2.2.1] at h
        have h := zret zy_212 h rfl rfl
        obtain ⟨e1, e2⟩ := oI h
        have h := hO15
        rw [e1, e2] at h
        clear e1 e2
        clear hO15
        have h := zm zy_284 h 4 (q := (73, dset (dset (dset (dset (dset (dset (dset (dset (dset lf 5 (0, (k : Int))) 4 (0, u)) 3 (0, (c : Int))) 2 (0, 4)) 1 (0, (P : Int))) 0 (4, 253)) 3 (0, 1 + (c : Int))) 4 (0, w32 (u + f))) 5 (0, w32 (((k : Int)) + 1)), [], g)) rfl
        dsimp only at h
        try rw [w32_eq (z := ((k : Int)) + 1) (v := 1 + (k : Int)) (by omega) (by omega) (by omega)] at h
        refine Or.inl (⟨⟨hc8, hc12⟩, ?_⟩)
        exact ⟨_, rfl, rfl, rfl, rfl, rfl, rfl, h⟩
      · have h := zm zy_284 h 6 (q := (73, dset (dset (dset (dset (dset (dset (dset (dset (dset lf 5 (0, (k : Int))) 4 (0, u)) 3 (0, (c : Int))) 2 (0, 4)) 1 (0, (P : Int))) 0 (4, 253)) 3 (0, 1 + (c : Int))) 4 (0, w32 (u + 0))) 5 (0, w32 (((k : Int)) + 1)), [], g)) rfl
        dsimp only at h
        try rw [w32_eq (z := ((k : Int)) + 1) (v := 1 + (k : Int)) (by omega) (by omega) (by omega)] at h
        refine Or.inr (Or.inl (⟨⟨hc8, hc12⟩, ?_⟩))
        exact ⟨_, rfl, rfl, rfl, rfl, rfl, rfl, h⟩
    · have h := zm zy_284 h 3 (q := (73, dset (dset (dset (dset (dset (dset (dset lf 5 (0, (k : Int))) 4 (0, u)) 3 (0, (c : Int))) 2 (0, 4)) 1 (0, (P : Int))) 0 (4, 253)) 5 (0, w32 (((k : Int)) + 1)), [], g)) rfl
      dsimp only at h
      try rw [w32_eq (z := ((k : Int)) + 1) (v := 1 + (k : Int)) (by omega) (by omega) (by omega)] at h
      refine Or.inr (Or.inr (⟨hc8, ?_⟩))
      exact ⟨_, rfl, rfl, rfl, rfl, rfl, rfl, h⟩
theorem m_pe4_e {sv : Nat → Int32} {L n : Nat} {lf : dlf} {g : cg} {o : cg × Option cv} {P k N c : Nat} {u : Int} (rP : P ≤ 5) (rk : k ≤ 16) (rN : N ≤ 16) (rc : c ≤ 16) (hN : g 254 2 = (N : Int)) (hge : N ≤ k) (h : zr sv L (n + 1) 284 73 lf [] g o) (hl0 : lf 0 = (4, 253)) (hl1 : lf 1 = (0, (P : Int))) (hl2 : lf 2 = (0, 4)) (hl3 : lf 3 = (0, (c : Int))) (hl4 : lf 4 = (0, u)) (hl5 : lf 5 = (0, (k : Int))) : o = (cup g 253 2 0, some (0, (c : Int))) := by
  rw [zov hl0, zov hl1, zov hl2, zov hl3, zov hl4, zov hl5] at h
  have h := zm1 zy_284 h 5 (q := (cond (crel .ge ((k : Int)) (g 254 2)) 138 84, dset (dset (dset (dset (dset (dset lf 5 (0, (k : Int))) 4 (0, u)) 3 (0, (c : Int))) 2 (0, 4)) 1 (0, (P : Int))) 0 (4, 253), [], g)) rfl
  dsimp only at h
  try rw [hN] at h
  rcases zif_ge h with ⟨hc1, h⟩ | ⟨hc1, h⟩
  · have h := zm zy_284 h 6 (q := (150, dset (dset (dset (dset (dset (dset lf 5 (0, (k : Int))) 4 (0, u)) 3 (0, (c : Int))) 2 (0, 4)) 1 (0, (P : Int))) 0 (4, 253), [(0, (c : Int)), (4, 253)], g)) rfl
    dsimp only at h
    obtain ⟨gz2, rz3, hk, h⟩ := zcallI zy_284 h rfl rfl zy_192 zk_192
    dsimp only at hk h
    have hO4 := h
    have h := hk
    clear hk
    have h := zm zy_192 h 4 (q := (6, darg 0 [(4, 253), (0, (c : Int))], [(0, (c : Int))], cup g 253 2 0)) rfl
    dsimp only at h
    have h := zret zy_192 h rfl rfl
    obtain ⟨e1, e2⟩ := oI h
    have h := hO4
    rw [e1, e2] at h
    clear e1 e2
    clear hO4
    exact zret zy_284 h rfl rfl
  · exact absurd hc1 (by omega)
theorem m_pe23_5 {sv : Nat → Int32} {L n : Nat} {lf : dlf} {g : cg} {o : cg × Option cv} {P : Nat} (rP : P ≤ 5) (h : zr sv L n 284 23 lf [] g o) (hl0 : lf 0 = (4, 253)) (hl1 : lf 1 = (0, (P : Int))) (hl2 : lf 2 = (0, 5)) : ∃ lf', lf' 0 = (4, 253) ∧ lf' 1 = (0, (P : Int)) ∧ lf' 2 = (0, 5) ∧ lf' 3 = (0, 0) ∧ lf' 4 = (0, 0) ∧ lf' 5 = (0, 0) ∧ zr sv L n 284 73 lf' [] g o := by
  rw [zov hl0, zov hl1, zov hl2] at h
  have h := zm zy_284 h 12 (q := (73, dset (dset (dset (dset (dset (dset lf 2 (0, 5)) 1 (0, (P : Int))) 0 (4, 253)) 3 (0, 0)) 4 (0, 0)) 5 (0, 0), [], g)) rfl
  dsimp only at h
  exact ⟨_, rfl, rfl, rfl, rfl, rfl, rfl, h⟩
theorem m_pe5_s {sv : Nat → Int32} {L n : Nat} {lf : dlf} {g : cg} {o : cg × Option cv} {P w p q t k N c : Nat} {f s b u : Int} (rP : P ≤ 5) (rw : w ≤ 5) (rp : p ≤ 5) (rq : q ≤ 4) (rt : t ≤ 7) (rk : k ≤ 15) (rN : N ≤ 16) (rc : c ≤ 15) (hN : g 254 2 = (N : Int)) (hO : OHM g k w p q t f s b) (hlt : k < N) (h : zr sv L (n + 1) 284 73 lf [] g o) (hl0 : lf 0 = (4, 253)) (hl1 : lf 1 = (0, (P : Int))) (hl2 : lf 2 = (0, 5)) (hl3 : lf 3 = (0, (c : Int))) (hl4 : lf 4 = (0, u)) (hl5 : lf 5 = (0, (k : Int))) : (((w : Int) = (P : Int) ∧ b ≠ 1) ∧ (∃ lf', lf' 0 = (4, 253) ∧ lf' 1 = (0, (P : Int)) ∧ lf' 2 = (0, 5) ∧ lf' 3 = (0, 1 + (c : Int)) ∧ lf' 4 = (0, w32 (u + f)) ∧ lf' 5 = (0, 1 + (k : Int)) ∧ zr sv L n 284 73 lf' [] g o)) ∨ (((w : Int) = (P : Int) ∧ b = 1) ∧ (∃ lf', lf' 0 = (4, 253) ∧ lf' 1 = (0, (P : Int)) ∧ lf' 2 = (0, 5) ∧ lf' 3 = (0, 1 + (c : Int)) ∧ lf' 4 = (0, w32 (u + 0)) ∧ lf' 5 = (0, 1 + (k : Int)) ∧ zr sv L n 284 73 lf' [] g o)) ∨ (((w : Int) ≠ (P : Int)) ∧ (∃ lf', lf' 0 = (4, 253) ∧ lf' 1 = (0, (P : Int)) ∧ lf' 2 = (0, 5) ∧ lf' 3 = (0, (c : Int)) ∧ lf' 4 = (0, u) ∧ lf' 5 = (0, 1 + (k : Int)) ∧ zr sv L n 284 73 lf' [] g o)) := by
  rw [zov hl0, zov hl1, zov hl2, zov hl3, zov hl4, zov hl5] at h
  have h := zm1 zy_284 h 5 (q := (cond (crel .ge ((k : Int)) (g 254 2)) 138 84, dset (dset (dset (dset (dset (dset lf 5 (0, (k : Int))) 4 (0, u)) 3 (0, (c : Int))) 2 (0, 5)) 1 (0, (P : Int))) 0 (4, 253), [], g)) rfl
  dsimp only at h
  try rw [hN] at h
  rcases zif_ge h with ⟨hc1, h⟩ | ⟨hc1, h⟩
  · exact absurd hc1 (by omega)
  · have h := zm zy_284 h 2 (q := (87, dset (dset (dset (dset (dset (dset lf 5 (0, (k : Int))) 4 (0, u)) 3 (0, (c : Int))) 2 (0, 5)) 1 (0, (P : Int))) 0 (4, 253), [(0, (k : Int)), (4, 253)], g)) rfl
    dsimp only at h
    obtain ⟨gz2, rz3, hk, h⟩ := zcallI zy_284 h rfl rfl zy_211 zk_211
    dsimp only at hk h
    have hO4 := h
    have h := hk
    clear hk
    have h := zm zy_211 h 3 (q := (5, darg 0 [(4, 253), (0, (k : Int))], [(0, (k : Int)), (4, 254)], g)) rfl
    dsimp only at h
    obtain ⟨gz5, rz6, hk, h⟩ := zcallI zy_211 h rfl rfl zy_199 zk_199
    dsimp only at hk h
    have hO7 := h
    have h := hk
    clear hk
    have h := zm zy_199 h 5 (q := (7, darg 0 [(0, (k : Int))], [(0, w32 (99 + (w32 (8 * ((k : Int))))))], g)) rfl
    dsimp only at h
    try rw [w32_eq (z := 8 * ((k : Int))) (v := 8 * (k : Int)) (by omega) (by omega) (by omega)] at h
    try rw [w32_eq (z := 99 + (8 * (k : Int))) (v := 99 + 8 * (k : Int)) (by omega) (by omega) (by omega)] at h
    have h := zret zy_199 h rfl rfl
    obtain ⟨e1, e2⟩ := oI h
    have h := hO7
    rw [e1, e2] at h
    clear e1 e2
    clear hO7
    have h := zald zy_211 h rfl rfl (dvb_254 (i := 99 + 8 * (k : Int)) (by omega) (by omega))
    dsimp only at h
    try rw [show (99 + 8 * (k : Int)).toNat = 99 + 8 * k from by omega] at h
    try rw [hO.1] at h
    have h := zret zy_211 h rfl rfl
    obtain ⟨e1, e2⟩ := oI h
    have h := hO4
    rw [e1, e2] at h
    clear e1 e2
    clear hO4
    have h := zm zy_284 h 2 (q := (cond (crel .eq ((w : Int)) ((P : Int))) 97 94, dset (dset (dset (dset (dset (dset lf 5 (0, (k : Int))) 4 (0, u)) 3 (0, (c : Int))) 2 (0, 5)) 1 (0, (P : Int))) 0 (4, 253), [], g)) rfl
    dsimp only at h
    rcases zif_eq h with ⟨hc8, h⟩ | ⟨hc8, h⟩
    · have h := zm zy_284 h 5 (q := (108, dset (dset (dset (dset (dset (dset (dset lf 5 (0, (k : Int))) 4 (0, u)) 3 (0, (c : Int))) 2 (0, 5)) 1 (0, (P : Int))) 0 (4, 253)) 3 (0, w32 (((c : Int)) + 1)), [(0, (k : Int)), (4, 254), (0, u)], g)) rfl
      dsimp only at h
      try rw [w32_eq (z := ((c : Int)) + 1) (v := 1 + (c : Int)) (by omega) (by omega) (by omega)] at h
      obtain ⟨gz9, rz10, hk, h⟩ := zcallI zy_284 h rfl rfl zy_199 zk_199
      dsimp only at hk h
      have hO11 := h
      have h := hk
      clear hk
      have h := zm zy_199 h 5 (q := (7, darg 0 [(0, (k : Int))], [(0, w32 (99 + (w32 (8 * ((k : Int))))))], g)) rfl
      dsimp only at h
      try rw [w32_eq (z := 8 * ((k : Int))) (v := 8 * (k : Int)) (by omega) (by omega) (by omega)] at h
      try rw [w32_eq (z := 99 + (8 * (k : Int))) (v := 99 + 8 * (k : Int)) (by omega) (by omega) (by omega)] at h
      have h := zret zy_199 h rfl rfl
      obtain ⟨e1, e2⟩ := oI h
      have h := hO11
      rw [e1, e2] at h
      clear e1 e2
      clear hO11
      have h := zm zy_284 h 2 (q := (114, dset (dset (dset (dset (dset (dset (dset lf 5 (0, (k : Int))) 4 (0, u)) 3 (0, (c : Int))) 2 (0, 5)) 1 (0, (P : Int))) 0 (4, 253)) 3 (0, 1 + (c : Int)), [(0, w32 ((99 + 8 * (k : Int)) + 6)), (4, 254), (0, u)], g)) rfl
      dsimp only at h
      try rw [w32_eq (z := (99 + 8 * (k : Int)) + 6) (v := 105 + 8 * (k : Int)) (by omega) (by omega) (by omega)] at h
      have h := zald zy_284 h rfl rfl (dvb_254 (i := 105 + 8 * (k : Int)) (by omega) (by omega))
      dsimp only at h
      try rw [show (105 + 8 * (k : Int)).toNat = 105 + 8 * k from by omega] at h
      try rw [hO.2.2.2.2.2.2] at h
      have h := zm zy_284 h 2 (q := (cond (crel .ne b 1) 123 119, dset (dset (dset (dset (dset (dset (dset lf 5 (0, (k : Int))) 4 (0, u)) 3 (0, (c : Int))) 2 (0, 5)) 1 (0, (P : Int))) 0 (4, 253)) 3 (0, 1 + (c : Int)), [(0, u)], g)) rfl
      dsimp only at h
      rcases zif_ne h with ⟨hc12, h⟩ | ⟨hc12, h⟩
      · have h := zm zy_284 h 2 (q := (126, dset (dset (dset (dset (dset (dset (dset lf 5 (0, (k : Int))) 4 (0, u)) 3 (0, (c : Int))) 2 (0, 5)) 1 (0, (P : Int))) 0 (4, 253)) 3 (0, 1 + (c : Int)), [(0, (k : Int)), (4, 253), (0, u)], g)) rfl
        dsimp only at h
        obtain ⟨gz13, rz14, hk, h⟩ := zcallI zy_284 h rfl rfl zy_212 zk_212
        dsimp only at hk h
        have hO15 := h
        have h := hk
        clear hk
        have h := zm zy_212 h 3 (q := (5, darg 0 [(4, 253), (0, (k : Int))], [(0, (k : Int)), (4, 254)], g)) rfl
        dsimp only at h
        obtain ⟨gz16, rz17, hk, h⟩ := zcallI zy_212 h rfl rfl zy_199 zk_199
        dsimp only at hk h
        have hO18 := h
        have h := hk
        clear hk
        have h := zm zy_199 h 5 (q := (7, darg 0 [(0, (k : Int))], [(0, w32 (99 + (w32 (8 * ((k : Int))))))], g)) rfl
        dsimp only at h
        try rw [w32_eq (z := 8 * ((k : Int))) (v := 8 * (k : Int)) (by omega) (by omega) (by omega)] at h
        try rw [w32_eq (z := 99 + (8 * (k : Int))) (v := 99 + 8 * (k : Int)) (by omega) (by omega) (by omega)] at h
        have h := zret zy_199 h rfl rfl
        obtain ⟨e1, e2⟩ := oI h
        have h := hO18
        rw [e1, e2] at h
        clear e1 e2
        clear hO18
        have h := zm zy_212 h 2 (q := (10, darg 0 [(4, 253), (0, (k : Int))], [(0, w32 ((99 + 8 * (k : Int)) + 4)), (4, 254)], g)) rfl
        dsimp only at h
        try rw [w32_eq (z := (99 + 8 * (k : Int)) + 4) (v := 103 + 8 * (k : Int)) (by omega) (by omega) (by omega)] at h
        have h := zald zy_212 h rfl rfl (dvb_254 (i := 103 + 8 * (k : Int)) (by omega) (by omega))
        dsimp only at h
        try rw [show (103 + 8 * (k : Int)).toNat = 103 + 8 * k from by omega] at h
        try rw [hO.2.2.2.2.1] at h
        have h := zret zy_212 h rfl rfl
        obtain ⟨e1, e2⟩ := oI h
        have h := hO15
        rw [e1, e2] at h
        clear e1 e2
        clear hO15
        have h := zm zy_284 h 4 (q := (73, dset (dset (dset (dset (dset (dset (dset (dset (dset lf 5 (0, (k : Int))) 4 (0, u)) 3 (0, (c : Int))) 2 (0, 5)) 1 (0, (P : Int))) 0 (4, 253)) 3 (0, 1 + (c : Int))) 4 (0, w32 (u + f))) 5 (0, w32 (((k : Int)) + 1)), [], g)) rfl
        dsimp only at h
        try rw [w32_eq (z := ((k : Int)) + 1) (v := 1 + (k : Int)) (by omega) (by omega) (by omega)] at h
        refine Or.inl (⟨⟨hc8, hc12⟩, ?_⟩)
        exact ⟨_, rfl, rfl, rfl, rfl, rfl, rfl, h⟩
      · have h := zm zy_284 h 6 (q := (73, dset (dset (dset (dset (dset (dset (dset (dset (dset lf 5 (0, (k : Int))) 4 (0, u)) 3 (0, (c : Int))) 2 (0, 5)) 1 (0, (P : Int))) 0 (4, 253)) 3 (0, 1 + (c : Int))) 4 (0, w32 (u + 0))) 5 (0, w32 (((k : Int)) + 1)), [], g)) rfl
        dsimp only at h
        try rw [w32_eq (z := ((k : Int)) + 1) (v := 1 + (k : Int)) (by omega) (by omega) (by omega)] at h
        refine Or.inr (Or.inl (⟨⟨hc8, hc12⟩, ?_⟩))
        exact ⟨_, rfl, rfl, rfl, rfl, rfl, rfl, h⟩
    · have h := zm zy_284 h 3 (q := (73, dset (dset (dset (dset (dset (dset (dset lf 5 (0, (k : Int))) 4 (0, u)) 3 (0, (c : Int))) 2 (0, 5)) 1 (0, (P : Int))) 0 (4, 253)) 5 (0, w32 (((k : Int)) + 1)), [], g)) rfl
      dsimp only at h
      try rw [w32_eq (z := ((k : Int)) + 1) (v := 1 + (k : Int)) (by omega) (by omega) (by omega)] at h
      refine Or.inr (Or.inr (⟨hc8, ?_⟩))
      exact ⟨_, rfl, rfl, rfl, rfl, rfl, rfl, h⟩
theorem m_pe5_e {sv : Nat → Int32} {L n : Nat} {lf : dlf} {g : cg} {o : cg × Option cv} {P k N c : Nat} {u : Int} (rP : P ≤ 5) (rk : k ≤ 16) (rN : N ≤ 16) (rc : c ≤ 16) (hN : g 254 2 = (N : Int)) (hge : N ≤ k) (h : zr sv L (n + 1) 284 73 lf [] g o) (hl0 : lf 0 = (4, 253)) (hl1 : lf 1 = (0, (P : Int))) (hl2 : lf 2 = (0, 5)) (hl3 : lf 3 = (0, (c : Int))) (hl4 : lf 4 = (0, u)) (hl5 : lf 5 = (0, (k : Int))) : o = (cup g 253 2 0, some (0, u)) := by
  rw [zov hl0, zov hl1, zov hl2, zov hl3, zov hl4, zov hl5] at h
  have h := zm1 zy_284 h 5 (q := (cond (crel .ge ((k : Int)) (g 254 2)) 138 84, dset (dset (dset (dset (dset (dset lf 5 (0, (k : Int))) 4 (0, u)) 3 (0, (c : Int))) 2 (0, 5)) 1 (0, (P : Int))) 0 (4, 253), [], g)) rfl
  dsimp only at h
  try rw [hN] at h
  rcases zif_ge h with ⟨hc1, h⟩ | ⟨hc1, h⟩
  · have h := zm zy_284 h 5 (q := (150, dset (dset (dset (dset (dset (dset lf 5 (0, (k : Int))) 4 (0, u)) 3 (0, (c : Int))) 2 (0, 5)) 1 (0, (P : Int))) 0 (4, 253), [(0, u), (4, 253)], g)) rfl
    dsimp only at h
    obtain ⟨gz2, rz3, hk, h⟩ := zcallI zy_284 h rfl rfl zy_192 zk_192
    dsimp only at hk h
    have hO4 := h
    have h := hk
    clear hk
    have h := zm zy_192 h 4 (q := (6, darg 0 [(4, 253), (0, u)], [(0, u)], cup g 253 2 0)) rfl
    dsimp only at h
    have h := zret zy_192 h rfl rfl
    obtain ⟨e1, e2⟩ := oI h
    have h := hO4
    rw [e1, e2] at h
    clear e1 e2
    clear hO4
    exact zret zy_284 h rfl rfl
  · exact absurd hc1 (by omega)
theorem t_td0 {sv : Nat → Int32} {L n : Nat} {lf : dlf} {g : cg} {o : cg × Option cv} {a : Int} (h : zr sv L n 279 0 lf [] g o) (hl0 : lf 0 = (4, 0)) (hl1 : lf 1 = (0, a)) : ((a = 0) ∧ (o = (cup g 0 0 0, some (0, g 3 0)))) ∨ ((a = 1) ∧ (o = (cup g 0 0 0, some (0, g 3 3)))) ∨ ((a = 2) ∧ (o = (cup g 0 0 0, some (0, g 3 9)))) ∨ ((a = 3) ∧ (∃ g_1 r_1, zr sv L n 76 0 (darg 0 [(4, 3), (0, 0)]) [] g (g_1, some (0, r_1)) ∧ (o = (cup g_1 0 0 0, some (0, r_1))))) ∨ ((a = 4) ∧ (∃ g_1 r_1, zr sv L n 78 0 (darg 0 [(4, 3)]) [] g (g_1, some (0, r_1)) ∧ (o = (cup g_1 0 0 0, some (0, r_1))))) ∨ ((a = 5) ∧ (∃ g_1 r_1, zr sv L n 76 0 (darg 0 [(4, 3), (0, 1)]) [] g (g_1, some (0, r_1)) ∧ (o = (cup g_1 0 0 0, some (0, r_1))))) ∨ ((a = 6) ∧ (∃ g_1 r_1, zr sv L n 77 0 (darg 0 [(4, 3)]) [] g (g_1, some (0, r_1)) ∧ (o = (cup g_1 0 0 0, some (0, r_1))))) ∨ ((a = 7) ∧ (∃ g_1 r_1, zr sv L n 76 0 (darg 0 [(4, 3), (0, 2)]) [] g (g_1, some (0, r_1)) ∧ (o = (cup g_1 0 0 0, some (0, r_1))))) ∨ ((a = 8) ∧ (o = (cup g 0 0 0, some (0, g 3 5)))) ∨ ((a = 9) ∧ (o = (cup g 0 0 0, some (0, g 3 6)))) ∨ ((a = 10) ∧ (o = (cup g 0 0 0, some (0, g 3 7)))) ∨ ((a = 11) ∧ (o = (cup g 0 0 0, some (0, g 3 8)))) ∨ (((a < 0 ∨ 11 < a)) ∧ (o = (cup g 0 0 1, some (0, (-1))))) := by
  rw [zov hl0, zov hl1] at h
  have h := zm zy_279 h 1 (q := (1, dset (dset lf 1 (0, a)) 0 (4, 0), [(0, a)], g)) rfl
  dsimp only at h
  rcases ztab_0_11 (z := a) with hz | hz | hz | hz | hz | hz | hz | hz | hz | hz | hz | hz | hz
  · have hz0 := hz
    have h := ztabv h hz
    have h := zm zy_279 h 1 (q := (64, dset (dset lf 1 (0, a)) 0 (4, 0), [], g)) rfl
    dsimp only at h
    have h := zm zy_279 h 4 (q := (72, dset (dset lf 1 (0, a)) 0 (4, 0), [(0, g 3 0), (4, 0)], g)) rfl
    dsimp only at h
    obtain ⟨gz1, rz2, hk, h⟩ := zcallI zy_279 h rfl rfl zy_64 zk_64
    dsimp only at hk h
    have hO3 := h
    have h := hk
    clear hk
    have h := zm zy_64 h 4 (q := (6, darg 0 [(4, 0), (0, g 3 0)], [(0, g 3 0)], cup g 0 0 0)) rfl
    dsimp only at h
    have h := zret zy_64 h rfl rfl
    obtain ⟨e1, e2⟩ := oI h
    have h := hO3
    rw [e1, e2] at h
    clear e1 e2
    clear hO3
    refine Or.inl (⟨hz0, ?_⟩)
    exact zret zy_279 h rfl rfl
  · have hz0 := hz
    have h := ztabv h hz
    have h := zm zy_279 h 1 (q := (76, dset (dset lf 1 (0, a)) 0 (4, 0), [], g)) rfl
    dsimp only at h
    have h := zm zy_279 h 4 (q := (84, dset (dset lf 1 (0, a)) 0 (4, 0), [(0, g 3 3), (4, 0)], g)) rfl
    dsimp only at h
    obtain ⟨gz4, rz5, hk, h⟩ := zcallI zy_279 h rfl rfl zy_64 zk_64
    dsimp only at hk h
    have hO6 := h
    have h := hk
    clear hk
    have h := zm zy_64 h 4 (q := (6, darg 0 [(4, 0), (0, g 3 3)], [(0, g 3 3)], cup g 0 0 0)) rfl
    dsimp only at h
    have h := zret zy_64 h rfl rfl
    obtain ⟨e1, e2⟩ := oI h
    have h := hO6
    rw [e1, e2] at h
    clear e1 e2
    clear hO6
    refine Or.inr (Or.inl (⟨hz0, ?_⟩))
    exact zret zy_279 h rfl rfl
  · have hz0 := hz
    have h := ztabv h hz
    have h := zm zy_279 h 1 (q := (88, dset (dset lf 1 (0, a)) 0 (4, 0), [], g)) rfl
    dsimp only at h
    have h := zm zy_279 h 4 (q := (96, dset (dset lf 1 (0, a)) 0 (4, 0), [(0, g 3 9), (4, 0)], g)) rfl
    dsimp only at h
    obtain ⟨gz7, rz8, hk, h⟩ := zcallI zy_279 h rfl rfl zy_64 zk_64
    dsimp only at hk h
    have hO9 := h
    have h := hk
    clear hk
    have h := zm zy_64 h 4 (q := (6, darg 0 [(4, 0), (0, g 3 9)], [(0, g 3 9)], cup g 0 0 0)) rfl
    dsimp only at h
    have h := zret zy_64 h rfl rfl
    obtain ⟨e1, e2⟩ := oI h
    have h := hO9
    rw [e1, e2] at h
    clear e1 e2
    clear hO9
    refine Or.inr (Or.inr (Or.inl (⟨hz0, ?_⟩)))
    exact zret zy_279 h rfl rfl
  · have hz0 := hz
    have h := ztabv h hz
    have h := zm zy_279 h 1 (q := (100, dset (dset lf 1 (0, a)) 0 (4, 0), [], g)) rfl
    dsimp only at h
    have h := zm zy_279 h 4 (q := (106, dset (dset lf 1 (0, a)) 0 (4, 0), [(0, 0), (4, 3), (4, 0)], g)) rfl
    dsimp only at h
    obtain ⟨g_1, r_1, hk, h⟩ := zcallI zy_279 h rfl rfl zy_76 zk_76
    dsimp only at hk h
    refine Or.inr (Or.inr (Or.inr (Or.inl (⟨hz0, ?_⟩))))
    refine ⟨g_1, r_1, hk, ?_⟩
    obtain ⟨gz10, rz11, hk, h⟩ := zcallI zy_279 h rfl rfl zy_64 zk_64
    dsimp only at hk h
    have hO12 := h
    have h := hk
    clear hk
    have h := zm zy_64 h 4 (q := (6, darg 0 [(4, 0), (0, r_1)], [(0, r_1)], cup g_1 0 0 0)) rfl
    dsimp only at h
    have h := zret zy_64 h rfl rfl
    obtain ⟨e1, e2⟩ := oI h
    have h := hO12
    rw [e1, e2] at h
    clear e1 e2
    clear hO12
    exact zret zy_279 h rfl rfl
  · have hz0 := hz
    have h := ztabv h hz
    have h := zm zy_279 h 1 (q := (113, dset (dset lf 1 (0, a)) 0 (4, 0), [], g)) rfl
    dsimp only at h
    have h := zm zy_279 h 3 (q := (118, dset (dset lf 1 (0, a)) 0 (4, 0), [(4, 3), (4, 0)], g)) rfl
    dsimp only at h
    obtain ⟨g_1, r_1, hk, h⟩ := zcallI zy_279 h rfl rfl zy_78 zk_78
    dsimp only at hk h
    refine Or.inr (Or.inr (Or.inr (Or.inr (Or.inl (⟨hz0, ?_⟩)))))
    refine ⟨g_1, r_1, hk, ?_⟩
    obtain ⟨gz13, rz14, hk, h⟩ := zcallI zy_279 h rfl rfl zy_64 zk_64
    dsimp only at hk h
    have hO15 := h
    have h := hk
    clear hk
    have h := zm zy_64 h 4 (q := (6, darg 0 [(4, 0), (0, r_1)], [(0, r_1)], cup g_1 0 0 0)) rfl
    dsimp only at h
    have h := zret zy_64 h rfl rfl
    obtain ⟨e1, e2⟩ := oI h
    have h := hO15
    rw [e1, e2] at h
    clear e1 e2
    clear hO15
    exact zret zy_279 h rfl rfl
  · have hz0 := hz
    have h := ztabv h hz
    have h := zm zy_279 h 1 (q := (125, dset (dset lf 1 (0, a)) 0 (4, 0), [], g)) rfl
    dsimp only at h
    have h := zm zy_279 h 4 (q := (131, dset (dset lf 1 (0, a)) 0 (4, 0), [(0, 1), (4, 3), (4, 0)], g)) rfl
    dsimp only at h
    obtain ⟨g_1, r_1, hk, h⟩ := zcallI zy_279 h rfl rfl zy_76 zk_76
    dsimp only at hk h
    refine Or.inr (Or.inr (Or.inr (Or.inr (Or.inr (Or.inl (⟨hz0, ?_⟩))))))
    refine ⟨g_1, r_1, hk, ?_⟩
    obtain ⟨gz16, rz17, hk, h⟩ := zcallI zy_279 h rfl rfl zy_64 zk_64
    dsimp only at hk h
    have hO18 := h
    have h := hk
    clear hk
    have h := zm zy_64 h 4 (q := (6, darg 0 [(4, 0), (0, r_1)], [(0, r_1)], cup g_1 0 0 0)) rfl
    dsimp only at h
    have h := zret zy_64 h rfl rfl
    obtain ⟨e1, e2⟩ := oI h
    have h := hO18
    rw [e1, e2] at h
    clear e1 e2
    clear hO18
    exact zret zy_279 h rfl rfl
  · have hz0 := hz
    have h := ztabv h hz
    have h := zm zy_279 h 1 (q := (138, dset (dset lf 1 (0, a)) 0 (4, 0), [], g)) rfl
    dsimp only at h
    have h := zm zy_279 h 3 (q := (143, dset (dset lf 1 (0, a)) 0 (4, 0), [(4, 3), (4, 0)], g)) rfl
    dsimp only at h
    obtain ⟨g_1, r_1, hk, h⟩ := zcallI zy_279 h rfl rfl zy_77 zk_77
    dsimp only at hk h
    refine Or.inr (Or.inr (Or.inr (Or.inr (Or.inr (Or.inr (Or.inl (⟨hz0, ?_⟩)))))))
    refine ⟨g_1, r_1, hk, ?_⟩
    obtain ⟨gz19, rz20, hk, h⟩ := zcallI zy_279 h rfl rfl zy_64 zk_64
    dsimp only at hk h
    have hO21 := h
    have h := hk
    clear hk
    have h := zm zy_64 h 4 (q := (6, darg 0 [(4, 0), (0, r_1)], [(0, r_1)], cup g_1 0 0 0)) rfl
    dsimp only at h
    have h := zret zy_64 h rfl rfl
    obtain ⟨e1, e2⟩ := oI h
    have h := hO21
    rw [e1, e2] at h
    clear e1 e2
    clear hO21
    exact zret zy_279 h rfl rfl
  · have hz0 := hz
    have h := ztabv h hz
    have h := zm zy_279 h 1 (q := (150, dset (dset lf 1 (0, a)) 0 (4, 0), [], g)) rfl
    dsimp only at h
    have h := zm zy_279 h 4 (q := (156, dset (dset lf 1 (0, a)) 0 (4, 0), [(0, 2), (4, 3), (4, 0)], g)) rfl
    dsimp only at h
    obtain ⟨g_1, r_1, hk, h⟩ := zcallI zy_279 h rfl rfl zy_76 zk_76
    dsimp only at hk h
    refine Or.inr (Or.inr (Or.inr (Or.inr (Or.inr (Or.inr (Or.inr (Or.inl (⟨hz0, ?_⟩))))))))
    refine ⟨g_1, r_1, hk, ?_⟩
    obtain ⟨gz22, rz23, hk, h⟩ := zcallI zy_279 h rfl rfl zy_64 zk_64
    dsimp only at hk h
    have hO24 := h
    have h := hk
    clear hk
    have h := zm zy_64 h 4 (q := (6, darg 0 [(4, 0), (0, r_1)], [(0, r_1)], cup g_1 0 0 0)) rfl
    dsimp only at h
    have h := zret zy_64 h rfl rfl
    obtain ⟨e1, e2⟩ := oI h
    have h := hO24
    rw [e1, e2] at h
    clear e1 e2
    clear hO24
    exact zret zy_279 h rfl rfl
  · have hz0 := hz
    have h := ztabv h hz
    have h := zm zy_279 h 1 (q := (163, dset (dset lf 1 (0, a)) 0 (4, 0), [], g)) rfl
    dsimp only at h
    have h := zm zy_279 h 4 (q := (171, dset (dset lf 1 (0, a)) 0 (4, 0), [(0, g 3 5), (4, 0)], g)) rfl
    dsimp only at h
    obtain ⟨gz25, rz26, hk, h⟩ := zcallI zy_279 h rfl rfl zy_64 zk_64
    dsimp only at hk h
    have hO27 := h
    have h := hk
    clear hk
    have h := zm zy_64 h 4 (q := (6, darg 0 [(4, 0), (0, g 3 5)], [(0, g 3 5)], cup g 0 0 0)) rfl
    dsimp only at h
    have h := zret zy_64 h rfl rfl
    obtain ⟨e1, e2⟩ := oI h
    have h := hO27
    rw [e1, e2] at h
    clear e1 e2
    clear hO27
    refine Or.inr (Or.inr (Or.inr (Or.inr (Or.inr (Or.inr (Or.inr (Or.inr (Or.inl (⟨hz0, ?_⟩)))))))))
    exact zret zy_279 h rfl rfl
  · have hz0 := hz
    have h := ztabv h hz
    have h := zm zy_279 h 1 (q := (175, dset (dset lf 1 (0, a)) 0 (4, 0), [], g)) rfl
    dsimp only at h
    have h := zm zy_279 h 4 (q := (183, dset (dset lf 1 (0, a)) 0 (4, 0), [(0, g 3 6), (4, 0)], g)) rfl
    dsimp only at h
    obtain ⟨gz28, rz29, hk, h⟩ := zcallI zy_279 h rfl rfl zy_64 zk_64
    dsimp only at hk h
    have hO30 := h
    have h := hk
    clear hk
    have h := zm zy_64 h 4 (q := (6, darg 0 [(4, 0), (0, g 3 6)], [(0, g 3 6)], cup g 0 0 0)) rfl
    dsimp only at h
    have h := zret zy_64 h rfl rfl
    obtain ⟨e1, e2⟩ := oI h
    have h := hO30
    rw [e1, e2] at h
    clear e1 e2
    clear hO30
    refine Or.inr (Or.inr (Or.inr (Or.inr (Or.inr (Or.inr (Or.inr (Or.inr (Or.inr (Or.inl (⟨hz0, ?_⟩))))))))))
    exact zret zy_279 h rfl rfl
  · have hz0 := hz
    have h := ztabv h hz
    have h := zm zy_279 h 1 (q := (187, dset (dset lf 1 (0, a)) 0 (4, 0), [], g)) rfl
    dsimp only at h
    have h := zm zy_279 h 4 (q := (195, dset (dset lf 1 (0, a)) 0 (4, 0), [(0, g 3 7), (4, 0)], g)) rfl
    dsimp only at h
    obtain ⟨gz31, rz32, hk, h⟩ := zcallI zy_279 h rfl rfl zy_64 zk_64
    dsimp only at hk h
    have hO33 := h
    have h := hk
    clear hk
    have h := zm zy_64 h 4 (q := (6, darg 0 [(4, 0), (0, g 3 7)], [(0, g 3 7)], cup g 0 0 0)) rfl
    dsimp only at h
    have h := zret zy_64 h rfl rfl
    obtain ⟨e1, e2⟩ := oI h
    have h := hO33
    rw [e1, e2] at h
    clear e1 e2
    clear hO33
    refine Or.inr (Or.inr (Or.inr (Or.inr (Or.inr (Or.inr (Or.inr (Or.inr (Or.inr (Or.inr (Or.inl (⟨hz0, ?_⟩)))))))))))
    exact zret zy_279 h rfl rfl
  · have hz0 := hz
    have h := ztabv h hz
    have h := zm zy_279 h 1 (q := (199, dset (dset lf 1 (0, a)) 0 (4, 0), [], g)) rfl
    dsimp only at h
    have h := zm zy_279 h 4 (q := (207, dset (dset lf 1 (0, a)) 0 (4, 0), [(0, g 3 8), (4, 0)], g)) rfl
    dsimp only at h
    obtain ⟨gz34, rz35, hk, h⟩ := zcallI zy_279 h rfl rfl zy_64 zk_64
    dsimp only at hk h
    have hO36 := h
    have h := hk
    clear hk
    have h := zm zy_64 h 4 (q := (6, darg 0 [(4, 0), (0, g 3 8)], [(0, g 3 8)], cup g 0 0 0)) rfl
    dsimp only at h
    have h := zret zy_64 h rfl rfl
    obtain ⟨e1, e2⟩ := oI h
    have h := hO36
    rw [e1, e2] at h
    clear e1 e2
    clear hO36
    refine Or.inr (Or.inr (Or.inr (Or.inr (Or.inr (Or.inr (Or.inr (Or.inr (Or.inr (Or.inr (Or.inr (Or.inl (⟨hz0, ?_⟩))))))))))))
    exact zret zy_279 h rfl rfl
  · have hz0 := hz
    have h := ztabd h zy_279 rfl hz (by decide)
    have h := zm zy_279 h 2 (q := (213, dset (dset lf 1 (0, a)) 0 (4, 0), [(0, 1), (4, 0)], g)) rfl
    dsimp only at h
    obtain ⟨gz37, rz38, hk, h⟩ := zcallI zy_279 h rfl rfl zy_29 zk_29
    dsimp only at hk h
    have hO39 := h
    have h := hk
    clear hk
    have h := zm zy_29 h 4 (q := (6, darg 0 [(4, 0), (0, 1)], [(0, (-1))], cup g 0 0 1)) rfl
    dsimp only at h
    have h := zret zy_29 h rfl rfl
    obtain ⟨e1, e2⟩ := oI h
    have h := hO39
    rw [e1, e2] at h
    clear e1 e2
    clear hO39
    refine Or.inr (Or.inr (Or.inr (Or.inr (Or.inr (Or.inr (Or.inr (Or.inr (Or.inr (Or.inr (Or.inr (Or.inr (⟨hz0, ?_⟩))))))))))))
    exact zret zy_279 h rfl rfl
theorem t_ins0_0 {sv : Nat → Int32} {L n : Nat} {lf : dlf} {g : cg} {o : cg × Option cv} (h : zr sv L n 76 0 lf [] g o) (hl0 : lf 0 = (4, 3)) (hl1 : lf 1 = (0, 0)) : ∃ lf', lf' 0 = (4, 3) ∧ lf' 1 = (0, 0) ∧ lf' 2 = (0, 0) ∧ lf' 3 = (0, 0) ∧ zr sv L n 76 4 lf' [] g o := by
  rw [zov hl0, zov hl1] at h
  have h := zm zy_76 h 4 (q := (4, dset (dset (dset (dset lf 1 (0, 0)) 0 (4, 3)) 2 (0, 0)) 3 (0, 0), [], g)) rfl
  dsimp only at h
  exact ⟨_, rfl, rfl, rfl, rfl, h⟩
theorem t_ins0_s {sv : Nat → Int32} {L n : Nat} {lf : dlf} {g : cg} {o : cg × Option cv} {c w p q t k N : Nat} {f s b : Int} (rc : c ≤ 15) (rw : w ≤ 5) (rp : p ≤ 5) (rq : q ≤ 4) (rt : t ≤ 7) (rk : k ≤ 15) (rN : N ≤ 16) (hN : g 3 9 = (N : Int)) (hO : OHC g k w p q t f s b) (hlt : k < N) (h : zr sv L (n + 1) 76 4 lf [] g o) (hl0 : lf 0 = (4, 3)) (hl1 : lf 1 = (0, 0)) (hl2 : lf 2 = (0, (c : Int))) (hl3 : lf 3 = (0, (k : Int))) : ((s ≠ 0) ∧ (∃ lf', lf' 0 = (4, 3) ∧ lf' 1 = (0, 0) ∧ lf' 2 = (0, (c : Int)) ∧ lf' 3 = (0, 1 + (k : Int)) ∧ zr sv L n 76 4 lf' [] g o)) ∨ ((s = 0) ∧ (∃ lf', lf' 0 = (4, 3) ∧ lf' 1 = (0, 0) ∧ lf' 2 = (0, 1 + (c : Int)) ∧ lf' 3 = (0, 1 + (k : Int)) ∧ zr sv L n 76 4 lf' [] g o)) := by
  rw [zov hl0, zov hl1, zov hl2, zov hl3] at h
  have h := zm1 zy_76 h 3 (q := (cond (crel .ge ((k : Int)) (g 3 9)) 34 12, dset (dset (dset (dset lf 3 (0, (k : Int))) 2 (0, (c : Int))) 1 (0, 0)) 0 (4, 3), [], g)) rfl
  dsimp only at h
  try rw [hN] at h
  rcases zif_ge h with ⟨hc1, h⟩ | ⟨hc1, h⟩
  · exact absurd hc1 (by omega)
  · have h := zm zy_76 h 3 (q := (17, dset (dset (dset (dset lf 3 (0, (k : Int))) 2 (0, (c : Int))) 1 (0, 0)) 0 (4, 3), [(0, (k : Int)), (4, 7)], g)) rfl
    dsimp only at h
    have h := zald zy_76 h rfl rfl (dvp_7 (i := (k : Int)) (by omega) (by omega))
    dsimp only at h
    have h := zgf zy_76 h rfl rfl (dvf_29_5 (i := (k : Int)) (by omega) (by omega))
    dsimp only at h
    try rw [show (29 + ((k : Int))).toNat = 29 + k from by omega] at h
    try rw [hO.2.2.2.2.2.1] at h
    have h := zm zy_76 h 2 (q := (cond (crel .ne s 0) 28 25, dset (dset (dset (dset lf 3 (0, (k : Int))) 2 (0, (c : Int))) 1 (0, 0)) 0 (4, 3), [], g)) rfl
    dsimp only at h
    rcases zif_ne h with ⟨hc2, h⟩ | ⟨hc2, h⟩
    · have h := zm zy_76 h 2 (q := (4, dset (dset (dset (dset (dset lf 3 (0, (k : Int))) 2 (0, (c : Int))) 1 (0, 0)) 0 (4, 3)) 3 (0, w32 (((k : Int)) + 1)), [], g)) rfl
      dsimp only at h
      try rw [w32_eq (z := ((k : Int)) + 1) (v := 1 + (k : Int)) (by omega) (by omega) (by omega)] at h
      refine Or.inl (⟨hc2, ?_⟩)
      exact ⟨_, rfl, rfl, rfl, rfl, h⟩
    · have h := zm zy_76 h 3 (q := (4, dset (dset (dset (dset (dset (dset lf 3 (0, (k : Int))) 2 (0, (c : Int))) 1 (0, 0)) 0 (4, 3)) 2 (0, w32 (((c : Int)) + 1))) 3 (0, w32 (((k : Int)) + 1)), [], g)) rfl
      dsimp only at h
      try rw [w32_eq (z := ((c : Int)) + 1) (v := 1 + (c : Int)) (by omega) (by omega) (by omega)] at h
      try rw [w32_eq (z := ((k : Int)) + 1) (v := 1 + (k : Int)) (by omega) (by omega) (by omega)] at h
      refine Or.inr (⟨hc2, ?_⟩)
      exact ⟨_, rfl, rfl, rfl, rfl, h⟩
theorem t_ins0_e {sv : Nat → Int32} {L n : Nat} {lf : dlf} {g : cg} {o : cg × Option cv} {c k N : Nat} (rc : c ≤ 16) (rk : k ≤ 16) (rN : N ≤ 16) (hN : g 3 9 = (N : Int)) (hge : N ≤ k) (h : zr sv L (n + 1) 76 4 lf [] g o) (hl0 : lf 0 = (4, 3)) (hl1 : lf 1 = (0, 0)) (hl2 : lf 2 = (0, (c : Int))) (hl3 : lf 3 = (0, (k : Int))) : o = (g, some (0, (c : Int))) := by
  rw [zov hl0, zov hl1, zov hl2, zov hl3] at h
  have h := zm1 zy_76 h 3 (q := (cond (crel .ge ((k : Int)) (g 3 9)) 34 12, dset (dset (dset (dset lf 3 (0, (k : Int))) 2 (0, (c : Int))) 1 (0, 0)) 0 (4, 3), [], g)) rfl
  dsimp only at h
  try rw [hN] at h
  rcases zif_ge h with ⟨hc1, h⟩ | ⟨hc1, h⟩
  · have h := zm zy_76 h 1 (q := (35, dset (dset (dset (dset lf 3 (0, (k : Int))) 2 (0, (c : Int))) 1 (0, 0)) 0 (4, 3), [(0, (c : Int))], g)) rfl
    dsimp only at h
    exact zret zy_76 h rfl rfl
  · exact absurd hc1 (by omega)
theorem t_ins0_1 {sv : Nat → Int32} {L n : Nat} {lf : dlf} {g : cg} {o : cg × Option cv} (h : zr sv L n 76 0 lf [] g o) (hl0 : lf 0 = (4, 3)) (hl1 : lf 1 = (0, 1)) : ∃ lf', lf' 0 = (4, 3) ∧ lf' 1 = (0, 1) ∧ lf' 2 = (0, 0) ∧ lf' 3 = (0, 0) ∧ zr sv L n 76 4 lf' [] g o := by
  rw [zov hl0, zov hl1] at h
  have h := zm zy_76 h 4 (q := (4, dset (dset (dset (dset lf 1 (0, 1)) 0 (4, 3)) 2 (0, 0)) 3 (0, 0), [], g)) rfl
  dsimp only at h
  exact ⟨_, rfl, rfl, rfl, rfl, h⟩
theorem t_ins1_s {sv : Nat → Int32} {L n : Nat} {lf : dlf} {g : cg} {o : cg × Option cv} {c w p q t k N : Nat} {f s b : Int} (rc : c ≤ 15) (rw : w ≤ 5) (rp : p ≤ 5) (rq : q ≤ 4) (rt : t ≤ 7) (rk : k ≤ 15) (rN : N ≤ 16) (hN : g 3 9 = (N : Int)) (hO : OHC g k w p q t f s b) (hlt : k < N) (h : zr sv L (n + 1) 76 4 lf [] g o) (hl0 : lf 0 = (4, 3)) (hl1 : lf 1 = (0, 1)) (hl2 : lf 2 = (0, (c : Int))) (hl3 : lf 3 = (0, (k : Int))) : ((s ≠ 1) ∧ (∃ lf', lf' 0 = (4, 3) ∧ lf' 1 = (0, 1) ∧ lf' 2 = (0, (c : Int)) ∧ lf' 3 = (0, 1 + (k : Int)) ∧ zr sv L n 76 4 lf' [] g o)) ∨ ((s = 1) ∧ (∃ lf', lf' 0 = (4, 3) ∧ lf' 1 = (0, 1) ∧ lf' 2 = (0, 1 + (c : Int)) ∧ lf' 3 = (0, 1 + (k : Int)) ∧ zr sv L n 76 4 lf' [] g o)) := by
  rw [zov hl0, zov hl1, zov hl2, zov hl3] at h
  have h := zm1 zy_76 h 3 (q := (cond (crel .ge ((k : Int)) (g 3 9)) 34 12, dset (dset (dset (dset lf 3 (0, (k : Int))) 2 (0, (c : Int))) 1 (0, 1)) 0 (4, 3), [], g)) rfl
  dsimp only at h
  try rw [hN] at h
  rcases zif_ge h with ⟨hc1, h⟩ | ⟨hc1, h⟩
  · exact absurd hc1 (by omega)
  · have h := zm zy_76 h 3 (q := (17, dset (dset (dset (dset lf 3 (0, (k : Int))) 2 (0, (c : Int))) 1 (0, 1)) 0 (4, 3), [(0, (k : Int)), (4, 7)], g)) rfl
    dsimp only at h
    have h := zald zy_76 h rfl rfl (dvp_7 (i := (k : Int)) (by omega) (by omega))
    dsimp only at h
    have h := zgf zy_76 h rfl rfl (dvf_29_5 (i := (k : Int)) (by omega) (by omega))
    dsimp only at h
    try rw [show (29 + ((k : Int))).toNat = 29 + k from by omega] at h
    try rw [hO.2.2.2.2.2.1] at h
    have h := zm zy_76 h 2 (q := (cond (crel .ne s 1) 28 25, dset (dset (dset (dset lf 3 (0, (k : Int))) 2 (0, (c : Int))) 1 (0, 1)) 0 (4, 3), [], g)) rfl
    dsimp only at h
    rcases zif_ne h with ⟨hc2, h⟩ | ⟨hc2, h⟩
    · have h := zm zy_76 h 2 (q := (4, dset (dset (dset (dset (dset lf 3 (0, (k : Int))) 2 (0, (c : Int))) 1 (0, 1)) 0 (4, 3)) 3 (0, w32 (((k : Int)) + 1)), [], g)) rfl
      dsimp only at h
      try rw [w32_eq (z := ((k : Int)) + 1) (v := 1 + (k : Int)) (by omega) (by omega) (by omega)] at h
      refine Or.inl (⟨hc2, ?_⟩)
      exact ⟨_, rfl, rfl, rfl, rfl, h⟩
    · have h := zm zy_76 h 3 (q := (4, dset (dset (dset (dset (dset (dset lf 3 (0, (k : Int))) 2 (0, (c : Int))) 1 (0, 1)) 0 (4, 3)) 2 (0, w32 (((c : Int)) + 1))) 3 (0, w32 (((k : Int)) + 1)), [], g)) rfl
      dsimp only at h
      try rw [w32_eq (z := ((c : Int)) + 1) (v := 1 + (c : Int)) (by omega) (by omega) (by omega)] at h
      try rw [w32_eq (z := ((k : Int)) + 1) (v := 1 + (k : Int)) (by omega) (by omega) (by omega)] at h
      refine Or.inr (⟨hc2, ?_⟩)
      exact ⟨_, rfl, rfl, rfl, rfl, h⟩
theorem t_ins1_e {sv : Nat → Int32} {L n : Nat} {lf : dlf} {g : cg} {o : cg × Option cv} {c k N : Nat} (rc : c ≤ 16) (rk : k ≤ 16) (rN : N ≤ 16) (hN : g 3 9 = (N : Int)) (hge : N ≤ k) (h : zr sv L (n + 1) 76 4 lf [] g o) (hl0 : lf 0 = (4, 3)) (hl1 : lf 1 = (0, 1)) (hl2 : lf 2 = (0, (c : Int))) (hl3 : lf 3 = (0, (k : Int))) : o = (g, some (0, (c : Int))) := by
  rw [zov hl0, zov hl1, zov hl2, zov hl3] at h
  have h := zm1 zy_76 h 3 (q := (cond (crel .ge ((k : Int)) (g 3 9)) 34 12, dset (dset (dset (dset lf 3 (0, (k : Int))) 2 (0, (c : Int))) 1 (0, 1)) 0 (4, 3), [], g)) rfl
  dsimp only at h
  try rw [hN] at h
  rcases zif_ge h with ⟨hc1, h⟩ | ⟨hc1, h⟩
  · have h := zm zy_76 h 1 (q := (35, dset (dset (dset (dset lf 3 (0, (k : Int))) 2 (0, (c : Int))) 1 (0, 1)) 0 (4, 3), [(0, (c : Int))], g)) rfl
    dsimp only at h
    exact zret zy_76 h rfl rfl
  · exact absurd hc1 (by omega)
theorem t_ins0_2 {sv : Nat → Int32} {L n : Nat} {lf : dlf} {g : cg} {o : cg × Option cv} (h : zr sv L n 76 0 lf [] g o) (hl0 : lf 0 = (4, 3)) (hl1 : lf 1 = (0, 2)) : ∃ lf', lf' 0 = (4, 3) ∧ lf' 1 = (0, 2) ∧ lf' 2 = (0, 0) ∧ lf' 3 = (0, 0) ∧ zr sv L n 76 4 lf' [] g o := by
  rw [zov hl0, zov hl1] at h
  have h := zm zy_76 h 4 (q := (4, dset (dset (dset (dset lf 1 (0, 2)) 0 (4, 3)) 2 (0, 0)) 3 (0, 0), [], g)) rfl
  dsimp only at h
  exact ⟨_, rfl, rfl, rfl, rfl, h⟩
theorem t_ins2_s {sv : Nat → Int32} {L n : Nat} {lf : dlf} {g : cg} {o : cg × Option cv} {c w p q t k N : Nat} {f s b : Int} (rc : c ≤ 15) (rw : w ≤ 5) (rp : p ≤ 5) (rq : q ≤ 4) (rt : t ≤ 7) (rk : k ≤ 15) (rN : N ≤ 16) (hN : g 3 9 = (N : Int)) (hO : OHC g k w p q t f s b) (hlt : k < N) (h : zr sv L (n + 1) 76 4 lf [] g o) (hl0 : lf 0 = (4, 3)) (hl1 : lf 1 = (0, 2)) (hl2 : lf 2 = (0, (c : Int))) (hl3 : lf 3 = (0, (k : Int))) : ((s ≠ 2) ∧ (∃ lf', lf' 0 = (4, 3) ∧ lf' 1 = (0, 2) ∧ lf' 2 = (0, (c : Int)) ∧ lf' 3 = (0, 1 + (k : Int)) ∧ zr sv L n 76 4 lf' [] g o)) ∨ ((s = 2) ∧ (∃ lf', lf' 0 = (4, 3) ∧ lf' 1 = (0, 2) ∧ lf' 2 = (0, 1 + (c : Int)) ∧ lf' 3 = (0, 1 + (k : Int)) ∧ zr sv L n 76 4 lf' [] g o)) := by
  rw [zov hl0, zov hl1, zov hl2, zov hl3] at h
  have h := zm1 zy_76 h 3 (q := (cond (crel .ge ((k : Int)) (g 3 9)) 34 12, dset (dset (dset (dset lf 3 (0, (k : Int))) 2 (0, (c : Int))) 1 (0, 2)) 0 (4, 3), [], g)) rfl
  dsimp only at h
  try rw [hN] at h
  rcases zif_ge h with ⟨hc1, h⟩ | ⟨hc1, h⟩
  · exact absurd hc1 (by omega)
  · have h := zm zy_76 h 3 (q := (17, dset (dset (dset (dset lf 3 (0, (k : Int))) 2 (0, (c : Int))) 1 (0, 2)) 0 (4, 3), [(0, (k : Int)), (4, 7)], g)) rfl
    dsimp only at h
    have h := zald zy_76 h rfl rfl (dvp_7 (i := (k : Int)) (by omega) (by omega))
    dsimp only at h
    have h := zgf zy_76 h rfl rfl (dvf_29_5 (i := (k : Int)) (by omega) (by omega))
    dsimp only at h
    try rw [show (29 + ((k : Int))).toNat = 29 + k from by omega] at h
    try rw [hO.2.2.2.2.2.1] at h
    have h := zm zy_76 h 2 (q := (cond (crel .ne s 2) 28 25, dset (dset (dset (dset lf 3 (0, (k : Int))) 2 (0, (c : Int))) 1 (0, 2)) 0 (4, 3), [], g)) rfl
    dsimp only at h
    rcases zif_ne h with ⟨hc2, h⟩ | ⟨hc2, h⟩
    · have h := zm zy_76 h 2 (q := (4, dset (dset (dset (dset (dset lf 3 (0, (k : Int))) 2 (0, (c : Int))) 1 (0, 2)) 0 (4, 3)) 3 (0, w32 (((k : Int)) + 1)), [], g)) rfl
      dsimp only at h
      try rw [w32_eq (z := ((k : Int)) + 1) (v := 1 + (k : Int)) (by omega) (by omega) (by omega)] at h
      refine Or.inl (⟨hc2, ?_⟩)
      exact ⟨_, rfl, rfl, rfl, rfl, h⟩
    · have h := zm zy_76 h 3 (q := (4, dset (dset (dset (dset (dset (dset lf 3 (0, (k : Int))) 2 (0, (c : Int))) 1 (0, 2)) 0 (4, 3)) 2 (0, w32 (((c : Int)) + 1))) 3 (0, w32 (((k : Int)) + 1)), [], g)) rfl
      dsimp only at h
      try rw [w32_eq (z := ((c : Int)) + 1) (v := 1 + (c : Int)) (by omega) (by omega) (by omega)] at h
      try rw [w32_eq (z := ((k : Int)) + 1) (v := 1 + (k : Int)) (by omega) (by omega) (by omega)] at h
      refine Or.inr (⟨hc2, ?_⟩)
      exact ⟨_, rfl, rfl, rfl, rfl, h⟩
theorem t_ins2_e {sv : Nat → Int32} {L n : Nat} {lf : dlf} {g : cg} {o : cg × Option cv} {c k N : Nat} (rc : c ≤ 16) (rk : k ≤ 16) (rN : N ≤ 16) (hN : g 3 9 = (N : Int)) (hge : N ≤ k) (h : zr sv L (n + 1) 76 4 lf [] g o) (hl0 : lf 0 = (4, 3)) (hl1 : lf 1 = (0, 2)) (hl2 : lf 2 = (0, (c : Int))) (hl3 : lf 3 = (0, (k : Int))) : o = (g, some (0, (c : Int))) := by
  rw [zov hl0, zov hl1, zov hl2, zov hl3] at h
  have h := zm1 zy_76 h 3 (q := (cond (crel .ge ((k : Int)) (g 3 9)) 34 12, dset (dset (dset (dset lf 3 (0, (k : Int))) 2 (0, (c : Int))) 1 (0, 2)) 0 (4, 3), [], g)) rfl
  dsimp only at h
  try rw [hN] at h
  rcases zif_ge h with ⟨hc1, h⟩ | ⟨hc1, h⟩
  · have h := zm zy_76 h 1 (q := (35, dset (dset (dset (dset lf 3 (0, (k : Int))) 2 (0, (c : Int))) 1 (0, 2)) 0 (4, 3), [(0, (c : Int))], g)) rfl
    dsimp only at h
    exact zret zy_76 h rfl rfl
  · exact absurd hc1 (by omega)
theorem t_lis0 {sv : Nat → Int32} {L n : Nat} {lf : dlf} {g : cg} {o : cg × Option cv} (h : zr sv L n 78 0 lf [] g o) (hl0 : lf 0 = (4, 3)) : ∃ lf', lf' 0 = (4, 3) ∧ lf' 1 = (0, 0) ∧ lf' 2 = (0, 0) ∧ zr sv L n 78 4 lf' [] g o := by
  rw [zov hl0] at h
  have h := zm zy_78 h 4 (q := (4, dset (dset (dset lf 0 (4, 3)) 1 (0, 0)) 2 (0, 0), [], g)) rfl
  dsimp only at h
  exact ⟨_, rfl, rfl, rfl, h⟩
theorem t_lis_s {sv : Nat → Int32} {L n : Nat} {lf : dlf} {g : cg} {o : cg × Option cv} {c w p q t k N : Nat} {f s b v : Int} (rc : c ≤ 15) (rw : w ≤ 5) (rp : p ≤ 5) (rq : q ≤ 4) (rt : t ≤ 7) (rk : k ≤ 15) (rN : N ≤ 16) (hN : g 3 9 = (N : Int)) (hv : g (18 + 2 * p) t = v) (hO : OHC g k w p q t f s b) (hlt : k < N) (h : zr sv L (n + 1) 78 4 lf [] g o) (hl0 : lf 0 = (4, 3)) (hl1 : lf 1 = (0, (c : Int))) (hl2 : lf 2 = (0, (k : Int))) : (((s ≠ 0) ∨ (s = 0 ∧ v = (q : Int))) ∧ (∃ lf', lf' 0 = (4, 3) ∧ lf' 1 = (0, (c : Int)) ∧ lf' 2 = (0, 1 + (k : Int)) ∧ zr sv L n 78 4 lf' [] g o)) ∨ ((s = 0 ∧ v ≠ (q : Int)) ∧ (∃ lf', lf' 0 = (4, 3) ∧ lf' 1 = (0, 1 + (c : Int)) ∧ lf' 2 = (0, 1 + (k : Int)) ∧ zr sv L n 78 4 lf' [] g o)) := by
  rw [zov hl0, zov hl1, zov hl2] at h
  have h := zm1 zy_78 h 3 (q := (cond (crel .ge ((k : Int)) (g 3 9)) 34 12, dset (dset (dset lf 2 (0, (k : Int))) 1 (0, (c : Int))) 0 (4, 3), [], g)) rfl
  dsimp only at h
  try rw [hN] at h
  rcases zif_ge h with ⟨hc1, h⟩ | ⟨hc1, h⟩
  · exact absurd hc1 (by omega)
  · have h := zm zy_78 h 4 (q := (18, dset (dset (dset lf 2 (0, (k : Int))) 1 (0, (c : Int))) 0 (4, 3), [(0, (k : Int)), (4, 7), (4, 3)], g)) rfl
    dsimp only at h
    have h := zald zy_78 h rfl rfl (dvp_7 (i := (k : Int)) (by omega) (by omega))
    dsimp only at h
    obtain ⟨gz2, rz3, hk, h⟩ := zcallI zy_78 h rfl rfl zy_79 zk_79
    dsimp only at hk h
    have hO4 := h
    have h := hk
    clear hk
    have h := zm zy_79 h 1 (q := (1, darg 0 [(4, 3), (4, 29 + ((k : Int)))], [(4, 29 + ((k : Int)))], g)) rfl
    dsimp only at h
    have h := zgf zy_79 h rfl rfl (dvf_29_5 (i := (k : Int)) (by omega) (by omega))
    dsimp only at h
    try rw [show (29 + ((k : Int))).toNat = 29 + k from by omega] at h
    try rw [hO.2.2.2.2.2.1] at h
    have h := zm zy_79 h 1 (q := (cond (crel .ne s 0) 35 7, darg 0 [(4, 3), (4, 29 + ((k : Int)))], [], g)) rfl
    dsimp only at h
    rcases zif_ne h with ⟨hc5, h⟩ | ⟨hc5, h⟩
    · have h := zm zy_79 h 1 (q := (36, darg 0 [(4, 3), (4, 29 + ((k : Int)))], [(0, 0)], g)) rfl
      dsimp only at h
      have h := zret zy_79 h rfl rfl
      obtain ⟨e1, e2⟩ := oI h
      have h := hO4
      rw [e1, e2] at h
      clear e1 e2
      clear hO4
      have h := zm zy_78 h 3 (q := (4, dset (dset (dset (dset lf 2 (0, (k : Int))) 1 (0, (c : Int))) 0 (4, 3)) 2 (0, w32 (((k : Int)) + 1)), [], g)) rfl
      dsimp only at h
      try rw [w32_eq (z := ((k : Int)) + 1) (v := 1 + (k : Int)) (by omega) (by omega) (by omega)] at h
      refine Or.inl (⟨Or.inl (hc5), ?_⟩)
      exact ⟨_, rfl, rfl, rfl, h⟩
    · have h := zm zy_79 h 3 (q := (12, darg 0 [(4, 3), (4, 29 + ((k : Int)))], [(4, 29 + ((k : Int))), (4, 6)], g)) rfl
      dsimp only at h
      have h := zgf zy_79 h rfl rfl (dvf_29_1 (i := (k : Int)) (by omega) (by omega))
      dsimp only at h
      try rw [show (29 + ((k : Int))).toNat = 29 + k from by omega] at h
      try rw [hO.2.1] at h
      have h := zald zy_79 h rfl rfl (dvp_6 (i := (p : Int)) (by omega) (by omega))
      dsimp only at h
      have h := zgf zy_79 h rfl rfl (dvf_17_6 (i := (p : Int)) (by omega) (by omega))
      have h := zm zy_79 h 1 (q := (20, darg 0 [(4, 3), (4, 29 + ((k : Int)))], [(4, 29 + ((k : Int))), (4, 18 + 2 * ((p : Int)))], g)) rfl
      dsimp only at h
      have h := zgf zy_79 h rfl rfl (dvf_29_3 (i := (k : Int)) (by omega) (by omega))
      dsimp only at h
      try rw [show (29 + ((k : Int))).toNat = 29 + k from by omega] at h
      try rw [hO.2.2.2.1] at h
      have h := zald zy_79 h rfl rfl (dvr_18 (i := (p : Int)) (j := (t : Int)) (by omega) (by omega) (by omega) (by omega))
      dsimp only at h
      try rw [show (18 + 2 * ((p : Int))).toNat = 18 + 2 * p from by omega] at h
      try rw [show ((t : Int)).toNat = t from by omega] at h
      try rw [hv] at h
      have h := zm zy_79 h 1 (q := (25, darg 0 [(4, 3), (4, 29 + ((k : Int)))], [(4, 29 + ((k : Int))), (0, v)], g)) rfl
      dsimp only at h
      have h := zgf zy_79 h rfl rfl (dvf_29_2 (i := (k : Int)) (by omega) (by omega))
      dsimp only at h
      try rw [show (29 + ((k : Int))).toNat = 29 + k from by omega] at h
      try rw [hO.2.2.1] at h
      have h := zm zy_79 h 1 (q := (cond (crel .eq v ((q : Int))) 35 31, darg 0 [(4, 3), (4, 29 + ((k : Int)))], [], g)) rfl
      dsimp only at h
      rcases zif_eq h with ⟨hc7, h⟩ | ⟨hc7, h⟩
      · have h := zm zy_79 h 1 (q := (36, darg 0 [(4, 3), (4, 29 + ((k : Int)))], [(0, 0)], g)) rfl
        dsimp only at h
        have h := zret zy_79 h rfl rfl
        obtain ⟨e1, e2⟩ := oI h
        have h := hO4
        rw [e1, e2] at h
        clear e1 e2
        clear hO4
        have h := zm zy_78 h 3 (q := (4, dset (dset (dset (dset lf 2 (0, (k : Int))) 1 (0, (c : Int))) 0 (4, 3)) 2 (0, w32 (((k : Int)) + 1)), [], g)) rfl
        dsimp only at h
        try rw [w32_eq (z := ((k : Int)) + 1) (v := 1 + (k : Int)) (by omega) (by omega) (by omega)] at h
        refine Or.inl (⟨Or.inr (⟨hc5, hc7⟩), ?_⟩)
        exact ⟨_, rfl, rfl, rfl, h⟩
      · have h := zm zy_79 h 2 (q := (36, darg 0 [(4, 3), (4, 29 + ((k : Int)))], [(0, 1)], g)) rfl
        dsimp only at h
        have h := zret zy_79 h rfl rfl
        obtain ⟨e1, e2⟩ := oI h
        have h := hO4
        rw [e1, e2] at h
        clear e1 e2
        clear hO4
        have h := zm zy_78 h 4 (q := (4, dset (dset (dset (dset (dset lf 2 (0, (k : Int))) 1 (0, (c : Int))) 0 (4, 3)) 1 (0, w32 (((c : Int)) + 1))) 2 (0, w32 (((k : Int)) + 1)), [], g)) rfl
        dsimp only at h
        try rw [w32_eq (z := ((c : Int)) + 1) (v := 1 + (c : Int)) (by omega) (by omega) (by omega)] at h
        try rw [w32_eq (z := ((k : Int)) + 1) (v := 1 + (k : Int)) (by omega) (by omega) (by omega)] at h
        refine Or.inr (⟨⟨hc5, hc7⟩, ?_⟩)
        exact ⟨_, rfl, rfl, rfl, h⟩
theorem t_lis_e {sv : Nat → Int32} {L n : Nat} {lf : dlf} {g : cg} {o : cg × Option cv} {c k N : Nat} (rc : c ≤ 16) (rk : k ≤ 16) (rN : N ≤ 16) (hN : g 3 9 = (N : Int)) (hge : N ≤ k) (h : zr sv L (n + 1) 78 4 lf [] g o) (hl0 : lf 0 = (4, 3)) (hl1 : lf 1 = (0, (c : Int))) (hl2 : lf 2 = (0, (k : Int))) : o = (g, some (0, (c : Int))) := by
  rw [zov hl0, zov hl1, zov hl2] at h
  have h := zm1 zy_78 h 3 (q := (cond (crel .ge ((k : Int)) (g 3 9)) 34 12, dset (dset (dset lf 2 (0, (k : Int))) 1 (0, (c : Int))) 0 (4, 3), [], g)) rfl
  dsimp only at h
  try rw [hN] at h
  rcases zif_ge h with ⟨hc1, h⟩ | ⟨hc1, h⟩
  · have h := zm zy_78 h 1 (q := (35, dset (dset (dset lf 2 (0, (k : Int))) 1 (0, (c : Int))) 0 (4, 3), [(0, (c : Int))], g)) rfl
    dsimp only at h
    exact zret zy_78 h rfl rfl
  · exact absurd hc1 (by omega)
theorem t_rfs0 {sv : Nat → Int32} {L n : Nat} {lf : dlf} {g : cg} {o : cg × Option cv} (h : zr sv L n 77 0 lf [] g o) (hl0 : lf 0 = (4, 3)) : ∃ lf', lf' 0 = (4, 3) ∧ lf' 1 = (0, 0) ∧ lf' 2 = (0, 0) ∧ zr sv L n 77 4 lf' [] g o := by
  rw [zov hl0] at h
  have h := zm zy_77 h 4 (q := (4, dset (dset (dset lf 0 (4, 3)) 1 (0, 0)) 2 (0, 0), [], g)) rfl
  dsimp only at h
  exact ⟨_, rfl, rfl, rfl, h⟩
theorem t_rfs_s {sv : Nat → Int32} {L n : Nat} {lf : dlf} {g : cg} {o : cg × Option cv} {c w p q t k N : Nat} {f s b : Int} (rc : c ≤ 15) (rw : w ≤ 5) (rp : p ≤ 5) (rq : q ≤ 4) (rt : t ≤ 7) (rk : k ≤ 15) (rN : N ≤ 16) (hN : g 3 9 = (N : Int)) (hO : OHC g k w p q t f s b) (hlt : k < N) (h : zr sv L (n + 1) 77 4 lf [] g o) (hl0 : lf 0 = (4, 3)) (hl1 : lf 1 = (0, (c : Int))) (hl2 : lf 2 = (0, (k : Int))) : ((b = 0) ∧ (∃ lf', lf' 0 = (4, 3) ∧ lf' 1 = (0, (c : Int)) ∧ lf' 2 = (0, 1 + (k : Int)) ∧ zr sv L n 77 4 lf' [] g o)) ∨ ((b ≠ 0) ∧ (∃ lf', lf' 0 = (4, 3) ∧ lf' 1 = (0, 1 + (c : Int)) ∧ lf' 2 = (0, 1 + (k : Int)) ∧ zr sv L n 77 4 lf' [] g o)) := by
  rw [zov hl0, zov hl1, zov hl2] at h
  have h := zm1 zy_77 h 3 (q := (cond (crel .ge ((k : Int)) (g 3 9)) 33 12, dset (dset (dset lf 2 (0, (k : Int))) 1 (0, (c : Int))) 0 (4, 3), [], g)) rfl
  dsimp only at h
  try rw [hN] at h
  rcases zif_ge h with ⟨hc1, h⟩ | ⟨hc1, h⟩
  · exact absurd hc1 (by omega)
  · have h := zm zy_77 h 3 (q := (17, dset (dset (dset lf 2 (0, (k : Int))) 1 (0, (c : Int))) 0 (4, 3), [(0, (k : Int)), (4, 7)], g)) rfl
    dsimp only at h
    have h := zald zy_77 h rfl rfl (dvp_7 (i := (k : Int)) (by omega) (by omega))
    dsimp only at h
    have h := zgf zy_77 h rfl rfl (dvf_29_6 (i := (k : Int)) (by omega) (by omega))
    dsimp only at h
    try rw [show (29 + ((k : Int))).toNat = 29 + k from by omega] at h
    try rw [hO.2.2.2.2.2.2] at h
    have h := zm zy_77 h 1 (q := (cond (crel .eq b 0) 27 24, dset (dset (dset lf 2 (0, (k : Int))) 1 (0, (c : Int))) 0 (4, 3), [], g)) rfl
    dsimp only at h
    rcases zif_eq h with ⟨hc2, h⟩ | ⟨hc2, h⟩
    · have h := zm zy_77 h 2 (q := (4, dset (dset (dset (dset lf 2 (0, (k : Int))) 1 (0, (c : Int))) 0 (4, 3)) 2 (0, w32 (((k : Int)) + 1)), [], g)) rfl
      dsimp only at h
      try rw [w32_eq (z := ((k : Int)) + 1) (v := 1 + (k : Int)) (by omega) (by omega) (by omega)] at h
      refine Or.inl (⟨hc2, ?_⟩)
      exact ⟨_, rfl, rfl, rfl, h⟩
    · have h := zm zy_77 h 3 (q := (4, dset (dset (dset (dset (dset lf 2 (0, (k : Int))) 1 (0, (c : Int))) 0 (4, 3)) 1 (0, w32 (((c : Int)) + 1))) 2 (0, w32 (((k : Int)) + 1)), [], g)) rfl
      dsimp only at h
      try rw [w32_eq (z := ((c : Int)) + 1) (v := 1 + (c : Int)) (by omega) (by omega) (by omega)] at h
      try rw [w32_eq (z := ((k : Int)) + 1) (v := 1 + (k : Int)) (by omega) (by omega) (by omega)] at h
      refine Or.inr (⟨hc2, ?_⟩)
      exact ⟨_, rfl, rfl, rfl, h⟩
theorem t_rfs_e {sv : Nat → Int32} {L n : Nat} {lf : dlf} {g : cg} {o : cg × Option cv} {c k N : Nat} (rc : c ≤ 16) (rk : k ≤ 16) (rN : N ≤ 16) (hN : g 3 9 = (N : Int)) (hge : N ≤ k) (h : zr sv L (n + 1) 77 4 lf [] g o) (hl0 : lf 0 = (4, 3)) (hl1 : lf 1 = (0, (c : Int))) (hl2 : lf 2 = (0, (k : Int))) : o = (g, some (0, (c : Int))) := by
  rw [zov hl0, zov hl1, zov hl2] at h
  have h := zm1 zy_77 h 3 (q := (cond (crel .ge ((k : Int)) (g 3 9)) 33 12, dset (dset (dset lf 2 (0, (k : Int))) 1 (0, (c : Int))) 0 (4, 3), [], g)) rfl
  dsimp only at h
  try rw [hN] at h
  rcases zif_ge h with ⟨hc1, h⟩ | ⟨hc1, h⟩
  · have h := zm zy_77 h 1 (q := (34, dset (dset (dset lf 2 (0, (k : Int))) 1 (0, (c : Int))) 0 (4, 3), [(0, (c : Int))], g)) rfl
    dsimp only at h
    exact zret zy_77 h rfl rfl
  · exact absurd hc1 (by omega)
theorem m_td0 {sv : Nat → Int32} {L n : Nat} {lf : dlf} {g : cg} {o : cg × Option cv} {a : Int} (h : zr sv L n 280 0 lf [] g o) (hl0 : lf 0 = (4, 253)) (hl1 : lf 1 = (0, a)) : (((a < 0) ∨ (0 ≤ a ∧ 11 < a)) ∧ (o = (cup g 253 2 1, some (0, (-1))))) ∨ ((0 ≤ a ∧ a ≤ 11) ∧ (∃ lf', lf' 0 = (4, 253) ∧ lf' 1 = (0, a) ∧ lf' 2 = (0, 0) ∧ lf' 3 = (0, 0) ∧ zr sv L n 280 20 lf' [] g o)) := by
  rw [zov hl0, zov hl1] at h
  have h := zm zy_280 h 2 (q := (cond (crel .lt a 0) 10 4, dset (dset lf 1 (0, a)) 0 (4, 253), [], g)) rfl
  dsimp only at h
  rcases zif_lt h with ⟨hc1, h⟩ | ⟨hc1, h⟩
  · have h := zm zy_280 h 2 (q := (12, dset (dset lf 1 (0, a)) 0 (4, 253), [(0, 1), (4, 253)], g)) rfl
    dsimp only at h
    obtain ⟨gz2, rz3, hk, h⟩ := zcallI zy_280 h rfl rfl zy_170 zk_170
    dsimp only at hk h
    have hO4 := h
    have h := hk
    clear hk
    have h := zm zy_170 h 4 (q := (6, darg 0 [(4, 253), (0, 1)], [(0, (-1))], cup g 253 2 1)) rfl
    dsimp only at h
    have h := zret zy_170 h rfl rfl
    obtain ⟨e1, e2⟩ := oI h
    have h := hO4
    rw [e1, e2] at h
    clear e1 e2
    clear hO4
    refine Or.inl (⟨Or.inl (hc1), ?_⟩)
    exact zret zy_280 h rfl rfl
  · have h := zm zy_280 h 3 (q := (cond (crel .le a 11) 16 10, dset (dset lf 1 (0, a)) 0 (4, 253), [], g)) rfl
    dsimp only at h
    rcases zif_le h with ⟨hc5, h⟩ | ⟨hc5, h⟩
    · have h := zm zy_280 h 4 (q := (20, dset (dset (dset (dset lf 1 (0, a)) 0 (4, 253)) 2 (0, 0)) 3 (0, 0), [], g)) rfl
      dsimp only at h
      refine Or.inr (⟨⟨hc1, hc5⟩, ?_⟩)
      exact ⟨_, rfl, rfl, rfl, rfl, h⟩
    · have h := zm zy_280 h 2 (q := (12, dset (dset lf 1 (0, a)) 0 (4, 253), [(0, 1), (4, 253)], g)) rfl
      dsimp only at h
      obtain ⟨gz7, rz8, hk, h⟩ := zcallI zy_280 h rfl rfl zy_170 zk_170
      dsimp only at hk h
      have hO9 := h
      have h := hk
      clear hk
      have h := zm zy_170 h 4 (q := (6, darg 0 [(4, 253), (0, 1)], [(0, (-1))], cup g 253 2 1)) rfl
      dsimp only at h
      have h := zret zy_170 h rfl rfl
      obtain ⟨e1, e2⟩ := oI h
      have h := hO9
      rw [e1, e2] at h
      clear e1 e2
      clear hO9
      refine Or.inl (⟨Or.inr (⟨hc1, hc5⟩), ?_⟩)
      exact zret zy_280 h rfl rfl
theorem m_td0_s {sv : Nat → Int32} {L n : Nat} {lf : dlf} {g : cg} {o : cg × Option cv} {w p q t k N : Nat} {f s b u v : Int} (rw : w ≤ 5) (rp : p ≤ 5) (rq : q ≤ 4) (rt : t ≤ 7) (rk : k ≤ 15) (rN : N ≤ 16) (hN : g 254 2 = (N : Int)) (hO : OHM g k w p q t f s b) (hv : g 254 (51 + 8 * p + t) = v) (hlt : k < N) (h : zr sv L (n + 1) 280 20 lf [] g o) (hl0 : lf 0 = (4, 253)) (hl1 : lf 1 = (0, 0)) (hl2 : lf 2 = (0, u)) (hl3 : lf 3 = (0, (k : Int))) : ((s ≠ 2) ∧ (∃ lf', lf' 0 = (4, 253) ∧ lf' 1 = (0, 0) ∧ lf' 2 = (0, w32 (u + 0)) ∧ lf' 3 = (0, 1 + (k : Int)) ∧ zr sv L n 280 20 lf' [] g o)) ∨ ((s = 2) ∧ (∃ lf', lf' 0 = (4, 253) ∧ lf' 1 = (0, 0) ∧ lf' 2 = (0, w32 (u + 1)) ∧ lf' 3 = (0, 1 + (k : Int)) ∧ zr sv L n 280 20 lf' [] g o)) := by
  rw [zov hl0, zov hl1, zov hl2, zov hl3] at h
  have h := zm1 zy_280 h 5 (q := (cond (crel .ge ((k : Int)) (g 254 2)) 142 30, dset (dset (dset (dset lf 3 (0, (k : Int))) 2 (0, u)) 1 (0, 0)) 0 (4, 253), [], g)) rfl
  dsimp only at h
  try rw [hN] at h
  rcases zif_ge h with ⟨hc1, h⟩ | ⟨hc1, h⟩
  · exact absurd hc1 (by omega)
  · have h := zm zy_280 h 3 (q := (35, dset (dset (dset (dset lf 3 (0, (k : Int))) 2 (0, u)) 1 (0, 0)) 0 (4, 253), [(0, (k : Int)), (4, 254)], g)) rfl
    dsimp only at h
    obtain ⟨gz2, rz3, hk, h⟩ := zcallI zy_280 h rfl rfl zy_199 zk_199
    dsimp only at hk h
    have hO4 := h
    have h := hk
    clear hk
    have h := zm zy_199 h 5 (q := (7, darg 0 [(0, (k : Int))], [(0, w32 (99 + (w32 (8 * ((k : Int))))))], g)) rfl
    dsimp only at h
    try rw [w32_eq (z := 8 * ((k : Int))) (v := 8 * (k : Int)) (by omega) (by omega) (by omega)] at h
    try rw [w32_eq (z := 99 + (8 * (k : Int))) (v := 99 + 8 * (k : Int)) (by omega) (by omega) (by omega)] at h
    have h := zret zy_199 h rfl rfl
    obtain ⟨e1, e2⟩ := oI h
    have h := hO4
    rw [e1, e2] at h
    clear e1 e2
    clear hO4
    have h := zm zy_280 h 2 (q := (40, dset (dset (dset (dset lf 3 (0, (k : Int))) 2 (0, u)) 1 (0, 0)) 0 (4, 253), [(0, w32 ((99 + 8 * (k : Int)) + 5)), (4, 254)], g)) rfl
    dsimp only at h
    try rw [w32_eq (z := (99 + 8 * (k : Int)) + 5) (v := 104 + 8 * (k : Int)) (by omega) (by omega) (by omega)] at h
    have h := zald zy_280 h rfl rfl (dvb_254 (i := 104 + 8 * (k : Int)) (by omega) (by omega))
    dsimp only at h
    try rw [show (104 + 8 * (k : Int)).toNat = 104 + 8 * k from by omega] at h
    try rw [hO.2.2.2.2.2.1] at h
    have h := zm zy_280 h 17 (q := (cond (crel .ne s 2) 133 129, dset (dset (dset (dset (dset lf 3 (0, (k : Int))) 2 (0, u)) 1 (0, 0)) 0 (4, 253)) 4 (0, s), [(0, u)], g)) rfl
    dsimp only at h
    rcases zif_ne h with ⟨hc5, h⟩ | ⟨hc5, h⟩
    · have h := zm zy_280 h 5 (q := (20, dset (dset (dset (dset (dset (dset (dset lf 3 (0, (k : Int))) 2 (0, u)) 1 (0, 0)) 0 (4, 253)) 4 (0, s)) 2 (0, w32 (u + 0))) 3 (0, w32 (((k : Int)) + 1)), [], g)) rfl
      dsimp only at h
      try rw [w32_eq (z := ((k : Int)) + 1) (v := 1 + (k : Int)) (by omega) (by omega) (by omega)] at h
      refine Or.inl (⟨hc5, ?_⟩)
      exact ⟨_, rfl, rfl, rfl, rfl, h⟩
    · have h := zm zy_280 h 6 (q := (20, dset (dset (dset (dset (dset (dset (dset lf 3 (0, (k : Int))) 2 (0, u)) 1 (0, 0)) 0 (4, 253)) 4 (0, s)) 2 (0, w32 (u + 1))) 3 (0, w32 (((k : Int)) + 1)), [], g)) rfl
      dsimp only at h
      try rw [w32_eq (z := ((k : Int)) + 1) (v := 1 + (k : Int)) (by omega) (by omega) (by omega)] at h
      refine Or.inr (⟨hc5, ?_⟩)
      exact ⟨_, rfl, rfl, rfl, rfl, h⟩
theorem m_td0_e {sv : Nat → Int32} {L n : Nat} {lf : dlf} {g : cg} {o : cg × Option cv} {k N : Nat} {u : Int} (rk : k ≤ 16) (rN : N ≤ 16) (hN : g 254 2 = (N : Int)) (hge : N ≤ k) (h : zr sv L (n + 1) 280 20 lf [] g o) (hl0 : lf 0 = (4, 253)) (hl1 : lf 1 = (0, 0)) (hl2 : lf 2 = (0, u)) (hl3 : lf 3 = (0, (k : Int))) : o = (cup g 253 2 0, some (0, g 254 0)) := by
  rw [zov hl0, zov hl1, zov hl2, zov hl3] at h
  have h := zm1 zy_280 h 5 (q := (cond (crel .ge ((k : Int)) (g 254 2)) 142 30, dset (dset (dset (dset lf 3 (0, (k : Int))) 2 (0, u)) 1 (0, 0)) 0 (4, 253), [], g)) rfl
  dsimp only at h
  try rw [hN] at h
  rcases zif_ge h with ⟨hc1, h⟩ | ⟨hc1, h⟩
  · have h := zm zy_280 h 9 (q := (175, dset (dset (dset (dset lf 3 (0, (k : Int))) 2 (0, u)) 1 (0, 0)) 0 (4, 253), [(0, g 254 0), (4, 253)], g)) rfl
    dsimp only at h
    obtain ⟨gz2, rz3, hk, h⟩ := zcallI zy_280 h rfl rfl zy_192 zk_192
    dsimp only at hk h
    have hO4 := h
    have h := hk
    clear hk
    have h := zm zy_192 h 4 (q := (6, darg 0 [(4, 253), (0, g 254 0)], [(0, g 254 0)], cup g 253 2 0)) rfl
    dsimp only at h
    have h := zret zy_192 h rfl rfl
    obtain ⟨e1, e2⟩ := oI h
    have h := hO4
    rw [e1, e2] at h
    clear e1 e2
    clear hO4
    exact zret zy_280 h rfl rfl
  · exact absurd hc1 (by omega)
theorem m_td1_s {sv : Nat → Int32} {L n : Nat} {lf : dlf} {g : cg} {o : cg × Option cv} {w p q t k N : Nat} {f s b u v : Int} (rw : w ≤ 5) (rp : p ≤ 5) (rq : q ≤ 4) (rt : t ≤ 7) (rk : k ≤ 15) (rN : N ≤ 16) (hN : g 254 2 = (N : Int)) (hO : OHM g k w p q t f s b) (hv : g 254 (51 + 8 * p + t) = v) (hlt : k < N) (h : zr sv L (n + 1) 280 20 lf [] g o) (hl0 : lf 0 = (4, 253)) (hl1 : lf 1 = (0, 1)) (hl2 : lf 2 = (0, u)) (hl3 : lf 3 = (0, (k : Int))) : ((s ≠ 2) ∧ (∃ lf', lf' 0 = (4, 253) ∧ lf' 1 = (0, 1) ∧ lf' 2 = (0, w32 (u + 0)) ∧ lf' 3 = (0, 1 + (k : Int)) ∧ zr sv L n 280 20 lf' [] g o)) ∨ ((s = 2) ∧ (∃ lf', lf' 0 = (4, 253) ∧ lf' 1 = (0, 1) ∧ lf' 2 = (0, w32 (u + 1)) ∧ lf' 3 = (0, 1 + (k : Int)) ∧ zr sv L n 280 20 lf' [] g o)) := by
  rw [zov hl0, zov hl1, zov hl2, zov hl3] at h
  have h := zm1 zy_280 h 5 (q := (cond (crel .ge ((k : Int)) (g 254 2)) 142 30, dset (dset (dset (dset lf 3 (0, (k : Int))) 2 (0, u)) 1 (0, 1)) 0 (4, 253), [], g)) rfl
  dsimp only at h
  try rw [hN] at h
  rcases zif_ge h with ⟨hc1, h⟩ | ⟨hc1, h⟩
  · exact absurd hc1 (by omega)
  · have h := zm zy_280 h 3 (q := (35, dset (dset (dset (dset lf 3 (0, (k : Int))) 2 (0, u)) 1 (0, 1)) 0 (4, 253), [(0, (k : Int)), (4, 254)], g)) rfl
    dsimp only at h
    obtain ⟨gz2, rz3, hk, h⟩ := zcallI zy_280 h rfl rfl zy_199 zk_199
    dsimp only at hk h
    have hO4 := h
    have h := hk
    clear hk
    have h := zm zy_199 h 5 (q := (7, darg 0 [(0, (k : Int))], [(0, w32 (99 + (w32 (8 * ((k : Int))))))], g)) rfl
    dsimp only at h
    try rw [w32_eq (z := 8 * ((k : Int))) (v := 8 * (k : Int)) (by omega) (by omega) (by omega)] at h
    try rw [w32_eq (z := 99 + (8 * (k : Int))) (v := 99 + 8 * (k : Int)) (by omega) (by omega) (by omega)] at h
    have h := zret zy_199 h rfl rfl
    obtain ⟨e1, e2⟩ := oI h
    have h := hO4
    rw [e1, e2] at h
    clear e1 e2
    clear hO4
    have h := zm zy_280 h 2 (q := (40, dset (dset (dset (dset lf 3 (0, (k : Int))) 2 (0, u)) 1 (0, 1)) 0 (4, 253), [(0, w32 ((99 + 8 * (k : Int)) + 5)), (4, 254)], g)) rfl
    dsimp only at h
    try rw [w32_eq (z := (99 + 8 * (k : Int)) + 5) (v := 104 + 8 * (k : Int)) (by omega) (by omega) (by omega)] at h
    have h := zald zy_280 h rfl rfl (dvb_254 (i := 104 + 8 * (k : Int)) (by omega) (by omega))
    dsimp only at h
    try rw [show (104 + 8 * (k : Int)).toNat = 104 + 8 * k from by omega] at h
    try rw [hO.2.2.2.2.2.1] at h
    have h := zm zy_280 h 17 (q := (cond (crel .ne s 2) 133 129, dset (dset (dset (dset (dset lf 3 (0, (k : Int))) 2 (0, u)) 1 (0, 1)) 0 (4, 253)) 4 (0, s), [(0, u)], g)) rfl
    dsimp only at h
    rcases zif_ne h with ⟨hc5, h⟩ | ⟨hc5, h⟩
    · have h := zm zy_280 h 5 (q := (20, dset (dset (dset (dset (dset (dset (dset lf 3 (0, (k : Int))) 2 (0, u)) 1 (0, 1)) 0 (4, 253)) 4 (0, s)) 2 (0, w32 (u + 0))) 3 (0, w32 (((k : Int)) + 1)), [], g)) rfl
      dsimp only at h
      try rw [w32_eq (z := ((k : Int)) + 1) (v := 1 + (k : Int)) (by omega) (by omega) (by omega)] at h
      refine Or.inl (⟨hc5, ?_⟩)
      exact ⟨_, rfl, rfl, rfl, rfl, h⟩
    · have h := zm zy_280 h 6 (q := (20, dset (dset (dset (dset (dset (dset (dset lf 3 (0, (k : Int))) 2 (0, u)) 1 (0, 1)) 0 (4, 253)) 4 (0, s)) 2 (0, w32 (u + 1))) 3 (0, w32 (((k : Int)) + 1)), [], g)) rfl
      dsimp only at h
      try rw [w32_eq (z := ((k : Int)) + 1) (v := 1 + (k : Int)) (by omega) (by omega) (by omega)] at h
      refine Or.inr (⟨hc5, ?_⟩)
      exact ⟨_, rfl, rfl, rfl, rfl, h⟩
theorem m_td1_e {sv : Nat → Int32} {L n : Nat} {lf : dlf} {g : cg} {o : cg × Option cv} {k N : Nat} {u : Int} (rk : k ≤ 16) (rN : N ≤ 16) (hN : g 254 2 = (N : Int)) (hge : N ≤ k) (h : zr sv L (n + 1) 280 20 lf [] g o) (hl0 : lf 0 = (4, 253)) (hl1 : lf 1 = (0, 1)) (hl2 : lf 2 = (0, u)) (hl3 : lf 3 = (0, (k : Int))) : o = (cup g 253 2 0, some (0, g 254 1)) := by
  rw [zov hl0, zov hl1, zov hl2, zov hl3] at h
  have h := zm1 zy_280 h 5 (q := (cond (crel .ge ((k : Int)) (g 254 2)) 142 30, dset (dset (dset (dset lf 3 (0, (k : Int))) 2 (0, u)) 1 (0, 1)) 0 (4, 253), [], g)) rfl
  dsimp only at h
  try rw [hN] at h
  rcases zif_ge h with ⟨hc1, h⟩ | ⟨hc1, h⟩
  · have h := zm zy_280 h 9 (q := (175, dset (dset (dset (dset lf 3 (0, (k : Int))) 2 (0, u)) 1 (0, 1)) 0 (4, 253), [(0, g 254 1), (4, 253)], g)) rfl
    dsimp only at h
    obtain ⟨gz2, rz3, hk, h⟩ := zcallI zy_280 h rfl rfl zy_192 zk_192
    dsimp only at hk h
    have hO4 := h
    have h := hk
    clear hk
    have h := zm zy_192 h 4 (q := (6, darg 0 [(4, 253), (0, g 254 1)], [(0, g 254 1)], cup g 253 2 0)) rfl
    dsimp only at h
    have h := zret zy_192 h rfl rfl
    obtain ⟨e1, e2⟩ := oI h
    have h := hO4
    rw [e1, e2] at h
    clear e1 e2
    clear hO4
    exact zret zy_280 h rfl rfl
  · exact absurd hc1 (by omega)
theorem m_td2_s {sv : Nat → Int32} {L n : Nat} {lf : dlf} {g : cg} {o : cg × Option cv} {w p q t k N : Nat} {f s b u v : Int} (rw : w ≤ 5) (rp : p ≤ 5) (rq : q ≤ 4) (rt : t ≤ 7) (rk : k ≤ 15) (rN : N ≤ 16) (hN : g 254 2 = (N : Int)) (hO : OHM g k w p q t f s b) (hv : g 254 (51 + 8 * p + t) = v) (hlt : k < N) (h : zr sv L (n + 1) 280 20 lf [] g o) (hl0 : lf 0 = (4, 253)) (hl1 : lf 1 = (0, 2)) (hl2 : lf 2 = (0, u)) (hl3 : lf 3 = (0, (k : Int))) : ((s ≠ 2) ∧ (∃ lf', lf' 0 = (4, 253) ∧ lf' 1 = (0, 2) ∧ lf' 2 = (0, w32 (u + 0)) ∧ lf' 3 = (0, 1 + (k : Int)) ∧ zr sv L n 280 20 lf' [] g o)) ∨ ((s = 2) ∧ (∃ lf', lf' 0 = (4, 253) ∧ lf' 1 = (0, 2) ∧ lf' 2 = (0, w32 (u + 1)) ∧ lf' 3 = (0, 1 + (k : Int)) ∧ zr sv L n 280 20 lf' [] g o)) := by
  rw [zov hl0, zov hl1, zov hl2, zov hl3] at h
  have h := zm1 zy_280 h 5 (q := (cond (crel .ge ((k : Int)) (g 254 2)) 142 30, dset (dset (dset (dset lf 3 (0, (k : Int))) 2 (0, u)) 1 (0, 2)) 0 (4, 253), [], g)) rfl
  dsimp only at h
  try rw [hN] at h
  rcases zif_ge h with ⟨hc1, h⟩ | ⟨hc1, h⟩
  · exact absurd hc1 (by omega)
  · have h := zm zy_280 h 3 (q := (35, dset (dset (dset (dset lf 3 (0, (k : Int))) 2 (0, u)) 1 (0, 2)) 0 (4, 253), [(0, (k : Int)), (4, 254)], g)) rfl
    dsimp only at h
    obtain ⟨gz2, rz3, hk, h⟩ := zcallI zy_280 h rfl rfl zy_199 zk_199
    dsimp only at hk h
    have hO4 := h
    have h := hk
    clear hk
    have h := zm zy_199 h 5 (q := (7, darg 0 [(0, (k : Int))], [(0, w32 (99 + (w32 (8 * ((k : Int))))))], g)) rfl
    dsimp only at h
    try rw [w32_eq (z := 8 * ((k : Int))) (v := 8 * (k : Int)) (by omega) (by omega) (by omega)] at h
    try rw [w32_eq (z := 99 + (8 * (k : Int))) (v := 99 + 8 * (k : Int)) (by omega) (by omega) (by omega)] at h
    have h := zret zy_199 h rfl rfl
    obtain ⟨e1, e2⟩ := oI h
    have h := hO4
    rw [e1, e2] at h
    clear e1 e2
    clear hO4
    have h := zm zy_280 h 2 (q := (40, dset (dset (dset (dset lf 3 (0, (k : Int))) 2 (0, u)) 1 (0, 2)) 0 (4, 253), [(0, w32 ((99 + 8 * (k : Int)) + 5)), (4, 254)], g)) rfl
    dsimp only at h
    try rw [w32_eq (z := (99 + 8 * (k : Int)) + 5) (v := 104 + 8 * (k : Int)) (by omega) (by omega) (by omega)] at h
    have h := zald zy_280 h rfl rfl (dvb_254 (i := 104 + 8 * (k : Int)) (by omega) (by omega))
    dsimp only at h
    try rw [show (104 + 8 * (k : Int)).toNat = 104 + 8 * k from by omega] at h
    try rw [hO.2.2.2.2.2.1] at h
    have h := zm zy_280 h 17 (q := (cond (crel .ne s 2) 133 129, dset (dset (dset (dset (dset lf 3 (0, (k : Int))) 2 (0, u)) 1 (0, 2)) 0 (4, 253)) 4 (0, s), [(0, u)], g)) rfl
    dsimp only at h
    rcases zif_ne h with ⟨hc5, h⟩ | ⟨hc5, h⟩
    · have h := zm zy_280 h 5 (q := (20, dset (dset (dset (dset (dset (dset (dset lf 3 (0, (k : Int))) 2 (0, u)) 1 (0, 2)) 0 (4, 253)) 4 (0, s)) 2 (0, w32 (u + 0))) 3 (0, w32 (((k : Int)) + 1)), [], g)) rfl
      dsimp only at h
      try rw [w32_eq (z := ((k : Int)) + 1) (v := 1 + (k : Int)) (by omega) (by omega) (by omega)] at h
      refine Or.inl (⟨hc5, ?_⟩)
      exact ⟨_, rfl, rfl, rfl, rfl, h⟩
    · have h := zm zy_280 h 6 (q := (20, dset (dset (dset (dset (dset (dset (dset lf 3 (0, (k : Int))) 2 (0, u)) 1 (0, 2)) 0 (4, 253)) 4 (0, s)) 2 (0, w32 (u + 1))) 3 (0, w32 (((k : Int)) + 1)), [], g)) rfl
      dsimp only at h
      try rw [w32_eq (z := ((k : Int)) + 1) (v := 1 + (k : Int)) (by omega) (by omega) (by omega)] at h
      refine Or.inr (⟨hc5, ?_⟩)
      exact ⟨_, rfl, rfl, rfl, rfl, h⟩
theorem m_td2_e {sv : Nat → Int32} {L n : Nat} {lf : dlf} {g : cg} {o : cg × Option cv} {k N : Nat} {u : Int} (rk : k ≤ 16) (rN : N ≤ 16) (hN : g 254 2 = (N : Int)) (hge : N ≤ k) (h : zr sv L (n + 1) 280 20 lf [] g o) (hl0 : lf 0 = (4, 253)) (hl1 : lf 1 = (0, 2)) (hl2 : lf 2 = (0, u)) (hl3 : lf 3 = (0, (k : Int))) : o = (cup g 253 2 0, some (0, (N : Int))) := by
  rw [zov hl0, zov hl1, zov hl2, zov hl3] at h
  have h := zm1 zy_280 h 5 (q := (cond (crel .ge ((k : Int)) (g 254 2)) 142 30, dset (dset (dset (dset lf 3 (0, (k : Int))) 2 (0, u)) 1 (0, 2)) 0 (4, 253), [], g)) rfl
  dsimp only at h
  try rw [hN] at h
  rcases zif_ge h with ⟨hc1, h⟩ | ⟨hc1, h⟩
  · have h := zm zy_280 h 9 (q := (175, dset (dset (dset (dset lf 3 (0, (k : Int))) 2 (0, u)) 1 (0, 2)) 0 (4, 253), [(0, g 254 2), (4, 253)], g)) rfl
    dsimp only at h
    try rw [hN] at h
    obtain ⟨gz2, rz3, hk, h⟩ := zcallI zy_280 h rfl rfl zy_192 zk_192
    dsimp only at hk h
    have hO4 := h
    have h := hk
    clear hk
    have h := zm zy_192 h 4 (q := (6, darg 0 [(4, 253), (0, (N : Int))], [(0, (N : Int))], cup g 253 2 0)) rfl
    dsimp only at h
    have h := zret zy_192 h rfl rfl
    obtain ⟨e1, e2⟩ := oI h
    have h := hO4
    rw [e1, e2] at h
    clear e1 e2
    clear hO4
    exact zret zy_280 h rfl rfl
  · exact absurd hc1 (by omega)
theorem m_td3_s {sv : Nat → Int32} {L n : Nat} {lf : dlf} {g : cg} {o : cg × Option cv} {w p q t k N : Nat} {f s b u v : Int} (rw : w ≤ 5) (rp : p ≤ 5) (rq : q ≤ 4) (rt : t ≤ 7) (rk : k ≤ 15) (rN : N ≤ 16) (hN : g 254 2 = (N : Int)) (hO : OHM g k w p q t f s b) (hv : g 254 (51 + 8 * p + t) = v) (hlt : k < N) (h : zr sv L (n + 1) 280 20 lf [] g o) (hl0 : lf 0 = (4, 253)) (hl1 : lf 1 = (0, 3)) (hl2 : lf 2 = (0, u)) (hl3 : lf 3 = (0, (k : Int))) : ((s ≠ 0) ∧ (∃ lf', lf' 0 = (4, 253) ∧ lf' 1 = (0, 3) ∧ lf' 2 = (0, w32 (u + 0)) ∧ lf' 3 = (0, 1 + (k : Int)) ∧ zr sv L n 280 20 lf' [] g o)) ∨ ((s = 0) ∧ (∃ lf', lf' 0 = (4, 253) ∧ lf' 1 = (0, 3) ∧ lf' 2 = (0, w32 (u + 1)) ∧ lf' 3 = (0, 1 + (k : Int)) ∧ zr sv L n 280 20 lf' [] g o)) := by
  rw [zov hl0, zov hl1, zov hl2, zov hl3] at h
  have h := zm1 zy_280 h 5 (q := (cond (crel .ge ((k : Int)) (g 254 2)) 142 30, dset (dset (dset (dset lf 3 (0, (k : Int))) 2 (0, u)) 1 (0, 3)) 0 (4, 253), [], g)) rfl
  dsimp only at h
  try rw [hN] at h
  rcases zif_ge h with ⟨hc1, h⟩ | ⟨hc1, h⟩
  · exact absurd hc1 (by omega)
  · have h := zm zy_280 h 3 (q := (35, dset (dset (dset (dset lf 3 (0, (k : Int))) 2 (0, u)) 1 (0, 3)) 0 (4, 253), [(0, (k : Int)), (4, 254)], g)) rfl
    dsimp only at h
    obtain ⟨gz2, rz3, hk, h⟩ := zcallI zy_280 h rfl rfl zy_199 zk_199
    dsimp only at hk h
    have hO4 := h
    have h := hk
    clear hk
    have h := zm zy_199 h 5 (q := (7, darg 0 [(0, (k : Int))], [(0, w32 (99 + (w32 (8 * ((k : Int))))))], g)) rfl
    dsimp only at h
    try rw [w32_eq (z := 8 * ((k : Int))) (v := 8 * (k : Int)) (by omega) (by omega) (by omega)] at h
    try rw [w32_eq (z := 99 + (8 * (k : Int))) (v := 99 + 8 * (k : Int)) (by omega) (by omega) (by omega)] at h
    have h := zret zy_199 h rfl rfl
    obtain ⟨e1, e2⟩ := oI h
    have h := hO4
    rw [e1, e2] at h
    clear e1 e2
    clear hO4
    have h := zm zy_280 h 2 (q := (40, dset (dset (dset (dset lf 3 (0, (k : Int))) 2 (0, u)) 1 (0, 3)) 0 (4, 253), [(0, w32 ((99 + 8 * (k : Int)) + 5)), (4, 254)], g)) rfl
    dsimp only at h
    try rw [w32_eq (z := (99 + 8 * (k : Int)) + 5) (v := 104 + 8 * (k : Int)) (by omega) (by omega) (by omega)] at h
    have h := zald zy_280 h rfl rfl (dvb_254 (i := 104 + 8 * (k : Int)) (by omega) (by omega))
    dsimp only at h
    try rw [show (104 + 8 * (k : Int)).toNat = 104 + 8 * k from by omega] at h
    try rw [hO.2.2.2.2.2.1] at h
    have h := zm zy_280 h 7 (q := (cond (crel .ne s 0) 58 54, dset (dset (dset (dset (dset lf 3 (0, (k : Int))) 2 (0, u)) 1 (0, 3)) 0 (4, 253)) 4 (0, s), [(0, u)], g)) rfl
    dsimp only at h
    rcases zif_ne h with ⟨hc5, h⟩ | ⟨hc5, h⟩
    · have h := zm zy_280 h 6 (q := (20, dset (dset (dset (dset (dset (dset (dset lf 3 (0, (k : Int))) 2 (0, u)) 1 (0, 3)) 0 (4, 253)) 4 (0, s)) 2 (0, w32 (u + 0))) 3 (0, w32 (((k : Int)) + 1)), [], g)) rfl
      dsimp only at h
      try rw [w32_eq (z := ((k : Int)) + 1) (v := 1 + (k : Int)) (by omega) (by omega) (by omega)] at h
      refine Or.inl (⟨hc5, ?_⟩)
      exact ⟨_, rfl, rfl, rfl, rfl, h⟩
    · have h := zm zy_280 h 6 (q := (20, dset (dset (dset (dset (dset (dset (dset lf 3 (0, (k : Int))) 2 (0, u)) 1 (0, 3)) 0 (4, 253)) 4 (0, s)) 2 (0, w32 (u + 1))) 3 (0, w32 (((k : Int)) + 1)), [], g)) rfl
      dsimp only at h
      try rw [w32_eq (z := ((k : Int)) + 1) (v := 1 + (k : Int)) (by omega) (by omega) (by omega)] at h
      refine Or.inr (⟨hc5, ?_⟩)
      exact ⟨_, rfl, rfl, rfl, rfl, h⟩
theorem m_td3_e {sv : Nat → Int32} {L n : Nat} {lf : dlf} {g : cg} {o : cg × Option cv} {k N : Nat} {u : Int} (rk : k ≤ 16) (rN : N ≤ 16) (hN : g 254 2 = (N : Int)) (hge : N ≤ k) (h : zr sv L (n + 1) 280 20 lf [] g o) (hl0 : lf 0 = (4, 253)) (hl1 : lf 1 = (0, 3)) (hl2 : lf 2 = (0, u)) (hl3 : lf 3 = (0, (k : Int))) : o = (cup g 253 2 0, some (0, u)) := by
  rw [zov hl0, zov hl1, zov hl2, zov hl3] at h
  have h := zm1 zy_280 h 5 (q := (cond (crel .ge ((k : Int)) (g 254 2)) 142 30, dset (dset (dset (dset lf 3 (0, (k : Int))) 2 (0, u)) 1 (0, 3)) 0 (4, 253), [], g)) rfl
  dsimp only at h
  try rw [hN] at h
  rcases zif_ge h with ⟨hc1, h⟩ | ⟨hc1, h⟩
  · have h := zm zy_280 h 9 (q := (175, dset (dset (dset (dset lf 3 (0, (k : Int))) 2 (0, u)) 1 (0, 3)) 0 (4, 253), [(0, u), (4, 253)], g)) rfl
    dsimp only at h
    obtain ⟨gz2, rz3, hk, h⟩ := zcallI zy_280 h rfl rfl zy_192 zk_192
    dsimp only at hk h
    have hO4 := h
    have h := hk
    clear hk
    have h := zm zy_192 h 4 (q := (6, darg 0 [(4, 253), (0, u)], [(0, u)], cup g 253 2 0)) rfl
    dsimp only at h
    have h := zret zy_192 h rfl rfl
    obtain ⟨e1, e2⟩ := oI h
    have h := hO4
    rw [e1, e2] at h
    clear e1 e2
    clear hO4
    exact zret zy_280 h rfl rfl
  · exact absurd hc1 (by omega)
theorem m_td4_s {sv : Nat → Int32} {L n : Nat} {lf : dlf} {g : cg} {o : cg × Option cv} {w p q t k N : Nat} {f s b u v : Int} (rw : w ≤ 5) (rp : p ≤ 5) (rq : q ≤ 4) (rt : t ≤ 7) (rk : k ≤ 15) (rN : N ≤ 16) (hN : g 254 2 = (N : Int)) (hO : OHM g k w p q t f s b) (hv : g 254 (51 + 8 * p + t) = v) (hlt : k < N) (h : zr sv L (n + 1) 280 20 lf [] g o) (hl0 : lf 0 = (4, 253)) (hl1 : lf 1 = (0, 4)) (hl2 : lf 2 = (0, u)) (hl3 : lf 3 = (0, (k : Int))) : (((s ≠ 0) ∨ (s = 0 ∧ v = (q : Int))) ∧ (∃ lf', lf' 0 = (4, 253) ∧ lf' 1 = (0, 4) ∧ lf' 2 = (0, w32 (u + 0)) ∧ lf' 3 = (0, 1 + (k : Int)) ∧ zr sv L n 280 20 lf' [] g o)) ∨ ((s = 0 ∧ v ≠ (q : Int)) ∧ (∃ lf', lf' 0 = (4, 253) ∧ lf' 1 = (0, 4) ∧ lf' 2 = (0, w32 (u + 1)) ∧ lf' 3 = (0, 1 + (k : Int)) ∧ zr sv L n 280 20 lf' [] g o)) := by
  rw [zov hl0, zov hl1, zov hl2, zov hl3] at h
  have h := zm1 zy_280 h 5 (q := (cond (crel .ge ((k : Int)) (g 254 2)) 142 30, dset (dset (dset (dset lf 3 (0, (k : Int))) 2 (0, u)) 1 (0, 4)) 0 (4, 253), [], g)) rfl
  dsimp only at h
  try rw [hN] at h
  rcases zif_ge h with ⟨hc1, h⟩ | ⟨hc1, h⟩
  · exact absurd hc1 (by omega)
  · have h := zm zy_280 h 3 (q := (35, dset (dset (dset (dset lf 3 (0, (k : Int))) 2 (0, u)) 1 (0, 4)) 0 (4, 253), [(0, (k : Int)), (4, 254)], g)) rfl
    dsimp only at h
    obtain ⟨gz2, rz3, hk, h⟩ := zcallI zy_280 h rfl rfl zy_199 zk_199
    dsimp only at hk h
    have hO4 := h
    have h := hk
    clear hk
    have h := zm zy_199 h 5 (q := (7, darg 0 [(0, (k : Int))], [(0, w32 (99 + (w32 (8 * ((k : Int))))))], g)) rfl
    dsimp only at h
    try rw [w32_eq (z := 8 * ((k : Int))) (v := 8 * (k : Int)) (by omega) (by omega) (by omega)] at h
    try rw [w32_eq (z := 99 + (8 * (k : Int))) (v := 99 + 8 * (k : Int)) (by omega) (by omega) (by omega)] at h
    have h := zret zy_199 h rfl rfl
    obtain ⟨e1, e2⟩ := oI h
    have h := hO4
    rw [e1, e2] at h
    clear e1 e2
    clear hO4
    have h := zm zy_280 h 2 (q := (40, dset (dset (dset (dset lf 3 (0, (k : Int))) 2 (0, u)) 1 (0, 4)) 0 (4, 253), [(0, w32 ((99 + 8 * (k : Int)) + 5)), (4, 254)], g)) rfl
    dsimp only at h
    try rw [w32_eq (z := (99 + 8 * (k : Int)) + 5) (v := 104 + 8 * (k : Int)) (by omega) (by omega) (by omega)] at h
    have h := zald zy_280 h rfl rfl (dvb_254 (i := 104 + 8 * (k : Int)) (by omega) (by omega))
    dsimp only at h
    try rw [show (104 + 8 * (k : Int)).toNat = 104 + 8 * k from by omega] at h
    try rw [hO.2.2.2.2.2.1] at h
    have h := zm zy_280 h 10 (q := (69, dset (dset (dset (dset (dset lf 3 (0, (k : Int))) 2 (0, u)) 1 (0, 4)) 0 (4, 253)) 4 (0, s), [(0, (k : Int)), (4, 253), (0, u)], g)) rfl
    dsimp only at h
    obtain ⟨gz5, rz6, hk, h⟩ := zcallI zy_280 h rfl rfl zy_200 zk_200
    dsimp only at hk h
    have hO7 := h
    have h := hk
    clear hk
    have h := zm zy_200 h 2 (q := (2, darg 0 [(4, 253), (0, (k : Int))], [(0, (k : Int)), (4, 253)], g)) rfl
    dsimp only at h
    obtain ⟨gz8, rz9, hk, h⟩ := zcallI zy_200 h rfl rfl zy_201 zk_201
    dsimp only at hk h
    have hO10 := h
    have h := hk
    clear hk
    have h := zm zy_201 h 3 (q := (5, darg 0 [(4, 253), (0, (k : Int))], [(0, (k : Int)), (4, 254)], g)) rfl
    dsimp only at h
    obtain ⟨gz11, rz12, hk, h⟩ := zcallI zy_201 h rfl rfl zy_199 zk_199
    dsimp only at hk h
    have hO13 := h
    have h := hk
    clear hk
    have h := zm zy_199 h 5 (q := (7, darg 0 [(0, (k : Int))], [(0, w32 (99 + (w32 (8 * ((k : Int))))))], g)) rfl
    dsimp only at h
    try rw [w32_eq (z := 8 * ((k : Int))) (v := 8 * (k : Int)) (by omega) (by omega) (by omega)] at h
    try rw [w32_eq (z := 99 + (8 * (k : Int))) (v := 99 + 8 * (k : Int)) (by omega) (by omega) (by omega)] at h
    have h := zret zy_199 h rfl rfl
    obtain ⟨e1, e2⟩ := oI h
    have h := hO13
    rw [e1, e2] at h
    clear e1 e2
    clear hO13
    have h := zm zy_201 h 2 (q := (10, darg 0 [(4, 253), (0, (k : Int))], [(0, w32 ((99 + 8 * (k : Int)) + 5)), (4, 254)], g)) rfl
    dsimp only at h
    try rw [w32_eq (z := (99 + 8 * (k : Int)) + 5) (v := 104 + 8 * (k : Int)) (by omega) (by omega) (by omega)] at h
    have h := zald zy_201 h rfl rfl (dvb_254 (i := 104 + 8 * (k : Int)) (by omega) (by omega))
    dsimp only at h
    try rw [show (104 + 8 * (k : Int)).toNat = 104 + 8 * k from by omega] at h
    try rw [hO.2.2.2.2.2.1] at h
    have h := zm zy_201 h 1 (q := (cond (crel .ne s 0) 18 14, darg 0 [(4, 253), (0, (k : Int))], [], g)) rfl
    dsimp only at h
    rcases zif_ne h with ⟨hc14, h⟩ | ⟨hc14, h⟩
    · have h := zm zy_201 h 1 (q := (19, darg 0 [(4, 253), (0, (k : Int))], [(0, 0)], g)) rfl
      dsimp only at h
      have h := zret zy_201 h rfl rfl
      obtain ⟨e1, e2⟩ := oI h
      have h := hO10
      rw [e1, e2] at h
      clear e1 e2
      clear hO10
      have h := zm zy_200 h 2 (q := (21, darg 0 [(4, 253), (0, (k : Int))], [(0, 0)], g)) rfl
      dsimp only at h
      have h := zret zy_200 h rfl rfl
      obtain ⟨e1, e2⟩ := oI h
      have h := hO7
      rw [e1, e2] at h
      clear e1 e2
      clear hO7
      have h := zm zy_280 h 7 (q := (20, dset (dset (dset (dset (dset (dset (dset lf 3 (0, (k : Int))) 2 (0, u)) 1 (0, 4)) 0 (4, 253)) 4 (0, s)) 2 (0, w32 (u + 0))) 3 (0, w32 (((k : Int)) + 1)), [], g)) rfl
      dsimp only at h
      try rw [w32_eq (z := ((k : Int)) + 1) (v := 1 + (k : Int)) (by omega) (by omega) (by omega)] at h
      refine Or.inl (⟨Or.inl (hc14), ?_⟩)
      exact ⟨_, rfl, rfl, rfl, rfl, h⟩
    · have h := zm zy_201 h 2 (q := (19, darg 0 [(4, 253), (0, (k : Int))], [(0, 1)], g)) rfl
      dsimp only at h
      have h := zret zy_201 h rfl rfl
      obtain ⟨e1, e2⟩ := oI h
      have h := hO10
      rw [e1, e2] at h
      clear e1 e2
      clear hO10
      have h := zm zy_200 h 3 (q := (10, darg 0 [(4, 253), (0, (k : Int))], [(0, (k : Int)), (4, 253)], g)) rfl
      dsimp only at h
      obtain ⟨gz16, rz17, hk, h⟩ := zcallI zy_200 h rfl rfl zy_202 zk_202
      dsimp only at hk h
      have hO18 := h
      have h := hk
      clear hk
      have h := zm zy_202 h 3 (q := (3, darg 0 [(4, 253), (0, (k : Int))], [(0, (k : Int)), (4, 253), (4, 253)], g)) rfl
      dsimp only at h
      obtain ⟨gz19, rz20, hk, h⟩ := zcallI zy_202 h rfl rfl zy_203 zk_203
      dsimp only at hk h
      have hO21 := h
      have h := hk
      clear hk
      have h := zm zy_203 h 3 (q := (5, darg 0 [(4, 253), (0, (k : Int))], [(0, (k : Int)), (4, 254)], g)) rfl
      dsimp only at h
      obtain ⟨gz22, rz23, hk, h⟩ := zcallI zy_203 h rfl rfl zy_199 zk_199
      dsimp only at hk h
      have hO24 := h
      have h := hk
      clear hk
      have h := zm zy_199 h 5 (q := (7, darg 0 [(0, (k : Int))], [(0, w32 (99 + (w32 (8 * ((k : Int))))))], g)) rfl
      dsimp only at h
      try rw [w32_eq (z := 8 * ((k : Int))) (v := 8 * (k : Int)) (by omega) (by omega) (by omega)] at h
      try rw [w32_eq (z := 99 + (8 * (k : Int))) (v := 99 + 8 * (k : Int)) (by omega) (by omega) (by omega)] at h
      have h := zret zy_199 h rfl rfl
      obtain ⟨e1, e2⟩ := oI h
      have h := hO24
      rw [e1, e2] at h
      clear e1 e2
      clear hO24
      have h := zm zy_203 h 2 (q := (10, darg 0 [(4, 253), (0, (k : Int))], [(0, w32 ((99 + 8 * (k : Int)) + 1)), (4, 254)], g)) rfl
      dsimp only at h
      try rw [w32_eq (z := (99 + 8 * (k : Int)) + 1) (v := 100 + 8 * (k : Int)) (by omega) (by omega) (by omega)] at h
      have h := zald zy_203 h rfl rfl (dvb_254 (i := 100 + 8 * (k : Int)) (by omega) (by omega))
      dsimp only at h
      try rw [show (100 + 8 * (k : Int)).toNat = 100 + 8 * k from by omega] at h
      try rw [hO.2.1] at h
      have h := zret zy_203 h rfl rfl
      obtain ⟨e1, e2⟩ := oI h
      have h := hO21
      rw [e1, e2] at h
      clear e1 e2
      clear hO21
      have h := zm zy_202 h 2 (q := (8, darg 0 [(4, 253), (0, (k : Int))], [(0, (k : Int)), (4, 253), (0, (p : Int)), (4, 253)], g)) rfl
      dsimp only at h
      obtain ⟨gz25, rz26, hk, h⟩ := zcallI zy_202 h rfl rfl zy_204 zk_204
      dsimp only at hk h
      have hO27 := h
      have h := hk
      clear hk
      have h := zm zy_204 h 3 (q := (5, darg 0 [(4, 253), (0, (k : Int))], [(0, (k : Int)), (4, 254)], g)) rfl
      dsimp only at h
      obtain ⟨gz28, rz29, hk, h⟩ := zcallI zy_204 h rfl rfl zy_199 zk_199
      dsimp only at hk h
      have hO30 := h
      have h := hk
      clear hk
      have h := zm zy_199 h 5 (q := (7, darg 0 [(0, (k : Int))], [(0, w32 (99 + (w32 (8 * ((k : Int))))))], g)) rfl
      dsimp only at h
      try rw [w32_eq (z := 8 * ((k : Int))) (v := 8 * (k : Int)) (by omega) (by omega) (by omega)] at h
      try rw [w32_eq (z := 99 + (8 * (k : Int))) (v := 99 + 8 * (k : Int)) (by omega) (by omega) (by omega)] at h
      have h := zret zy_199 h rfl rfl
      obtain ⟨e1, e2⟩ := oI h
      have h := hO30
      rw [e1, e2] at h
      clear e1 e2
      clear hO30
      have h := zm zy_204 h 2 (q := (10, darg 0 [(4, 253), (0, (k : Int))], [(0, w32 ((99 + 8 * (k : Int)) + 3)), (4, 254)], g)) rfl
      dsimp only at h
      try rw [w32_eq (z := (99 + 8 * (k : Int)) + 3) (v := 102 + 8 * (k : Int)) (by omega) (by omega) (by omega)] at h
      have h := zald zy_204 h rfl rfl (dvb_254 (i := 102 + 8 * (k : Int)) (by omega) (by omega))
      dsimp only at h
      try rw [show (102 + 8 * (k : Int)).toNat = 102 + 8 * k from by omega] at h
      try rw [hO.2.2.2.1] at h
      have h := zret zy_204 h rfl rfl
      obtain ⟨e1, e2⟩ := oI h
      have h := hO27
      rw [e1, e2] at h
      clear e1 e2
      clear hO27
      obtain ⟨gz31, rz32, hk, h⟩ := zcallI zy_202 h rfl rfl zy_205 zk_205
      dsimp only at hk h
      have hO33 := h
      have h := hk
      clear hk
      have h := zm zy_205 h 9 (q := (13, darg 0 [(4, 253), (0, (p : Int)), (0, (t : Int))], [(0, w32 ((w32 (51 + (w32 (8 * ((p : Int)))))) + ((t : Int)))), (4, 254)], g)) rfl
      dsimp only at h
      try rw [w32_eq (z := 8 * ((p : Int))) (v := 8 * (p : Int)) (by omega) (by omega) (by omega)] at h
      try rw [w32_eq (z := 51 + (8 * (p : Int))) (v := 51 + 8 * (p : Int)) (by omega) (by omega) (by omega)] at h
      try rw [w32_eq (z := (51 + 8 * (p : Int)) + ((t : Int))) (v := 51 + 8 * (p : Int) + (t : Int)) (by omega) (by omega) (by omega)] at h
      have h := zald zy_205 h rfl rfl (dvb_254 (i := 51 + 8 * (p : Int) + (t : Int)) (by omega) (by omega))
      dsimp only at h
      try rw [show (51 + 8 * (p : Int) + (t : Int)).toNat = 51 + 8 * p + t from by omega] at h
      try rw [hv] at h
      have h := zret zy_205 h rfl rfl
      obtain ⟨e1, e2⟩ := oI h
      have h := hO33
      rw [e1, e2] at h
      clear e1 e2
      clear hO33
      have h := zm zy_202 h 2 (q := (16, darg 0 [(4, 253), (0, (k : Int))], [(0, (k : Int)), (4, 253), (0, v)], g)) rfl
      dsimp only at h
      obtain ⟨gz34, rz35, hk, h⟩ := zcallI zy_202 h rfl rfl zy_206 zk_206
      dsimp only at hk h
      have hO36 := h
      have h := hk
      clear hk
      have h := zm zy_206 h 3 (q := (5, darg 0 [(4, 253), (0, (k : Int))], [(0, (k : Int)), (4, 254)], g)) rfl
      dsimp only at h
      obtain ⟨gz37, rz38, hk, h⟩ := zcallI zy_206 h rfl rfl zy_199 zk_199
      dsimp only at hk h
      have hO39 := h
      have h := hk
      clear hk
      have h := zm zy_199 h 5 (q := (7, darg 0 [(0, (k : Int))], [(0, w32 (99 + (w32 (8 * ((k : Int))))))], g)) rfl
      dsimp only at h
      try rw [w32_eq (z := 8 * ((k : Int))) (v := 8 * (k : Int)) (by omega) (by omega) (by omega)] at h
      try rw [w32_eq (z := 99 + (8 * (k : Int))) (v := 99 + 8 * (k : Int)) (by omega) (by omega) (by omega)] at h
      have h := zret zy_199 h rfl rfl
      obtain ⟨e1, e2⟩ := oI h
      have h := hO39
      rw [e1, e2] at h
      clear e1 e2
      clear hO39
      have h := zm zy_206 h 2 (q := (10, darg 0 [(4, 253), (0, (k : Int))], [(0, w32 ((99 + 8 * (k : Int)) + 2)), (4, 254)], g)) rfl
      dsimp only at h
      try rw [w32_eq (z := (99 + 8 * (k : Int)) + 2) (v := 101 + 8 * (k : Int)) (by omega) (by omega) (by omega)] at h
      have h := zald zy_206 h rfl rfl (dvb_254 (i := 101 + 8 * (k : Int)) (by omega) (by omega))
      dsimp only at h
      try rw [show (101 + 8 * (k : Int)).toNat = 101 + 8 * k from by omega] at h
      try rw [hO.2.2.1] at h
      have h := zret zy_206 h rfl rfl
      obtain ⟨e1, e2⟩ := oI h
      have h := hO36
      rw [e1, e2] at h
      clear e1 e2
      clear hO36
      have h := zm zy_202 h 1 (q := (cond (crel .ne v ((q : Int))) 26 22, darg 0 [(4, 253), (0, (k : Int))], [], g)) rfl
      dsimp only at h
      rcases zif_ne h with ⟨hc40, h⟩ | ⟨hc40, h⟩
      · have h := zm zy_202 h 1 (q := (27, darg 0 [(4, 253), (0, (k : Int))], [(0, 0)], g)) rfl
        dsimp only at h
        have h := zret zy_202 h rfl rfl
        obtain ⟨e1, e2⟩ := oI h
        have h := hO18
        rw [e1, e2] at h
        clear e1 e2
        clear hO18
        have h := zm zy_200 h 3 (q := (21, darg 0 [(4, 253), (0, (k : Int))], [(0, 1)], g)) rfl
        dsimp only at h
        have h := zret zy_200 h rfl rfl
        obtain ⟨e1, e2⟩ := oI h
        have h := hO7
        rw [e1, e2] at h
        clear e1 e2
        clear hO7
        have h := zm zy_280 h 7 (q := (20, dset (dset (dset (dset (dset (dset (dset lf 3 (0, (k : Int))) 2 (0, u)) 1 (0, 4)) 0 (4, 253)) 4 (0, s)) 2 (0, w32 (u + 1))) 3 (0, w32 (((k : Int)) + 1)), [], g)) rfl
        dsimp only at h
        try rw [w32_eq (z := ((k : Int)) + 1) (v := 1 + (k : Int)) (by omega) (by omega) (by omega)] at h
        refine Or.inr (⟨⟨hc14, hc40⟩, ?_⟩)
        exact ⟨_, rfl, rfl, rfl, rfl, h⟩
      · have h := zm zy_202 h 2 (q := (27, darg 0 [(4, 253), (0, (k : Int))], [(0, 1)], g)) rfl
        dsimp only at h
        have h := zret zy_202 h rfl rfl
        obtain ⟨e1, e2⟩ := oI h
        have h := hO18
        rw [e1, e2] at h
        clear e1 e2
        clear hO18
        have h := zm zy_200 h 2 (q := (21, darg 0 [(4, 253), (0, (k : Int))], [(0, 0)], g)) rfl
        dsimp only at h
        have h := zret zy_200 h rfl rfl
        obtain ⟨e1, e2⟩ := oI h
        have h := hO7
        rw [e1, e2] at h
        clear e1 e2
        clear hO7
        have h := zm zy_280 h 7 (q := (20, dset (dset (dset (dset (dset (dset (dset lf 3 (0, (k : Int))) 2 (0, u)) 1 (0, 4)) 0 (4, 253)) 4 (0, s)) 2 (0, w32 (u + 0))) 3 (0, w32 (((k : Int)) + 1)), [], g)) rfl
        dsimp only at h
        try rw [w32_eq (z := ((k : Int)) + 1) (v := 1 + (k : Int)) (by omega) (by omega) (by omega)] at h
        refine Or.inl (⟨Or.inr (⟨hc14, hc40⟩), ?_⟩)
        exact ⟨_, rfl, rfl, rfl, rfl, h⟩
theorem m_td4_e {sv : Nat → Int32} {L n : Nat} {lf : dlf} {g : cg} {o : cg × Option cv} {k N : Nat} {u : Int} (rk : k ≤ 16) (rN : N ≤ 16) (hN : g 254 2 = (N : Int)) (hge : N ≤ k) (h : zr sv L (n + 1) 280 20 lf [] g o) (hl0 : lf 0 = (4, 253)) (hl1 : lf 1 = (0, 4)) (hl2 : lf 2 = (0, u)) (hl3 : lf 3 = (0, (k : Int))) : o = (cup g 253 2 0, some (0, u)) := by
  rw [zov hl0, zov hl1, zov hl2, zov hl3] at h
  have h := zm1 zy_280 h 5 (q := (cond (crel .ge ((k : Int)) (g 254 2)) 142 30, dset (dset (dset (dset lf 3 (0, (k : Int))) 2 (0, u)) 1 (0, 4)) 0 (4, 253), [], g)) rfl
  dsimp only at h
  try rw [hN] at h
  rcases zif_ge h with ⟨hc1, h⟩ | ⟨hc1, h⟩
  · have h := zm zy_280 h 9 (q := (175, dset (dset (dset (dset lf 3 (0, (k : Int))) 2 (0, u)) 1 (0, 4)) 0 (4, 253), [(0, u), (4, 253)], g)) rfl
    dsimp only at h
    obtain ⟨gz2, rz3, hk, h⟩ := zcallI zy_280 h rfl rfl zy_192 zk_192
    dsimp only at hk h
    have hO4 := h
    have h := hk
    clear hk
    have h := zm zy_192 h 4 (q := (6, darg 0 [(4, 253), (0, u)], [(0, u)], cup g 253 2 0)) rfl
    dsimp only at h
    have h := zret zy_192 h rfl rfl
    obtain ⟨e1, e2⟩ := oI h
    have h := hO4
    rw [e1, e2] at h
    clear e1 e2
    clear hO4
    exact zret zy_280 h rfl rfl
  · exact absurd hc1 (by omega)
theorem m_td5_s {sv : Nat → Int32} {L n : Nat} {lf : dlf} {g : cg} {o : cg × Option cv} {w p q t k N : Nat} {f s b u v : Int} (rw : w ≤ 5) (rp : p ≤ 5) (rq : q ≤ 4) (rt : t ≤ 7) (rk : k ≤ 15) (rN : N ≤ 16) (hN : g 254 2 = (N : Int)) (hO : OHM g k w p q t f s b) (hv : g 254 (51 + 8 * p + t) = v) (hlt : k < N) (h : zr sv L (n + 1) 280 20 lf [] g o) (hl0 : lf 0 = (4, 253)) (hl1 : lf 1 = (0, 5)) (hl2 : lf 2 = (0, u)) (hl3 : lf 3 = (0, (k : Int))) : ((s ≠ 1) ∧ (∃ lf', lf' 0 = (4, 253) ∧ lf' 1 = (0, 5) ∧ lf' 2 = (0, w32 (u + 0)) ∧ lf' 3 = (0, 1 + (k : Int)) ∧ zr sv L n 280 20 lf' [] g o)) ∨ ((s = 1) ∧ (∃ lf', lf' 0 = (4, 253) ∧ lf' 1 = (0, 5) ∧ lf' 2 = (0, w32 (u + 1)) ∧ lf' 3 = (0, 1 + (k : Int)) ∧ zr sv L n 280 20 lf' [] g o)) := by
  rw [zov hl0, zov hl1, zov hl2, zov hl3] at h
  have h := zm1 zy_280 h 5 (q := (cond (crel .ge ((k : Int)) (g 254 2)) 142 30, dset (dset (dset (dset lf 3 (0, (k : Int))) 2 (0, u)) 1 (0, 5)) 0 (4, 253), [], g)) rfl
  dsimp only at h
  try rw [hN] at h
  rcases zif_ge h with ⟨hc1, h⟩ | ⟨hc1, h⟩
  · exact absurd hc1 (by omega)
  · have h := zm zy_280 h 3 (q := (35, dset (dset (dset (dset lf 3 (0, (k : Int))) 2 (0, u)) 1 (0, 5)) 0 (4, 253), [(0, (k : Int)), (4, 254)], g)) rfl
    dsimp only at h
    obtain ⟨gz2, rz3, hk, h⟩ := zcallI zy_280 h rfl rfl zy_199 zk_199
    dsimp only at hk h
    have hO4 := h
    have h := hk
    clear hk
    have h := zm zy_199 h 5 (q := (7, darg 0 [(0, (k : Int))], [(0, w32 (99 + (w32 (8 * ((k : Int))))))], g)) rfl
    dsimp only at h
    try rw [w32_eq (z := 8 * ((k : Int))) (v := 8 * (k : Int)) (by omega) (by omega) (by omega)] at h
    try rw [w32_eq (z := 99 + (8 * (k : Int))) (v := 99 + 8 * (k : Int)) (by omega) (by omega) (by omega)] at h
    have h := zret zy_199 h rfl rfl
    obtain ⟨e1, e2⟩ := oI h
    have h := hO4
    rw [e1, e2] at h
    clear e1 e2
    clear hO4
    have h := zm zy_280 h 2 (q := (40, dset (dset (dset (dset lf 3 (0, (k : Int))) 2 (0, u)) 1 (0, 5)) 0 (4, 253), [(0, w32 ((99 + 8 * (k : Int)) + 5)), (4, 254)], g)) rfl
    dsimp only at h
    try rw [w32_eq (z := (99 + 8 * (k : Int)) + 5) (v := 104 + 8 * (k : Int)) (by omega) (by omega) (by omega)] at h
    have h := zald zy_280 h rfl rfl (dvb_254 (i := 104 + 8 * (k : Int)) (by omega) (by omega))
    dsimp only at h
    try rw [show (104 + 8 * (k : Int)).toNat = 104 + 8 * k from by omega] at h
    try rw [hO.2.2.2.2.2.1] at h
    have h := zm zy_280 h 14 (q := (cond (crel .ne s 1) 98 94, dset (dset (dset (dset (dset lf 3 (0, (k : Int))) 2 (0, u)) 1 (0, 5)) 0 (4, 253)) 4 (0, s), [(0, u)], g)) rfl
    dsimp only at h
    rcases zif_ne h with ⟨hc5, h⟩ | ⟨hc5, h⟩
    · have h := zm zy_280 h 6 (q := (20, dset (dset (dset (dset (dset (dset (dset lf 3 (0, (k : Int))) 2 (0, u)) 1 (0, 5)) 0 (4, 253)) 4 (0, s)) 2 (0, w32 (u + 0))) 3 (0, w32 (((k : Int)) + 1)), [], g)) rfl
      dsimp only at h
      try rw [w32_eq (z := ((k : Int)) + 1) (v := 1 + (k : Int)) (by omega) (by omega) (by omega)] at h
      refine Or.inl (⟨hc5, ?_⟩)
      exact ⟨_, rfl, rfl, rfl, rfl, h⟩
    · have h := zm zy_280 h 6 (q := (20, dset (dset (dset (dset (dset (dset (dset lf 3 (0, (k : Int))) 2 (0, u)) 1 (0, 5)) 0 (4, 253)) 4 (0, s)) 2 (0, w32 (u + 1))) 3 (0, w32 (((k : Int)) + 1)), [], g)) rfl
      dsimp only at h
      try rw [w32_eq (z := ((k : Int)) + 1) (v := 1 + (k : Int)) (by omega) (by omega) (by omega)] at h
      refine Or.inr (⟨hc5, ?_⟩)
      exact ⟨_, rfl, rfl, rfl, rfl, h⟩
theorem m_td5_e {sv : Nat → Int32} {L n : Nat} {lf : dlf} {g : cg} {o : cg × Option cv} {k N : Nat} {u : Int} (rk : k ≤ 16) (rN : N ≤ 16) (hN : g 254 2 = (N : Int)) (hge : N ≤ k) (h : zr sv L (n + 1) 280 20 lf [] g o) (hl0 : lf 0 = (4, 253)) (hl1 : lf 1 = (0, 5)) (hl2 : lf 2 = (0, u)) (hl3 : lf 3 = (0, (k : Int))) : o = (cup g 253 2 0, some (0, u)) := by
  rw [zov hl0, zov hl1, zov hl2, zov hl3] at h
  have h := zm1 zy_280 h 5 (q := (cond (crel .ge ((k : Int)) (g 254 2)) 142 30, dset (dset (dset (dset lf 3 (0, (k : Int))) 2 (0, u)) 1 (0, 5)) 0 (4, 253), [], g)) rfl
  dsimp only at h
  try rw [hN] at h
  rcases zif_ge h with ⟨hc1, h⟩ | ⟨hc1, h⟩
  · have h := zm zy_280 h 9 (q := (175, dset (dset (dset (dset lf 3 (0, (k : Int))) 2 (0, u)) 1 (0, 5)) 0 (4, 253), [(0, u), (4, 253)], g)) rfl
    dsimp only at h
    obtain ⟨gz2, rz3, hk, h⟩ := zcallI zy_280 h rfl rfl zy_192 zk_192
    dsimp only at hk h
    have hO4 := h
    have h := hk
    clear hk
    have h := zm zy_192 h 4 (q := (6, darg 0 [(4, 253), (0, u)], [(0, u)], cup g 253 2 0)) rfl
    dsimp only at h
    have h := zret zy_192 h rfl rfl
    obtain ⟨e1, e2⟩ := oI h
    have h := hO4
    rw [e1, e2] at h
    clear e1 e2
    clear hO4
    exact zret zy_280 h rfl rfl
  · exact absurd hc1 (by omega)
theorem m_td6_s {sv : Nat → Int32} {L n : Nat} {lf : dlf} {g : cg} {o : cg × Option cv} {w p q t k N : Nat} {f s b u v : Int} (rw : w ≤ 5) (rp : p ≤ 5) (rq : q ≤ 4) (rt : t ≤ 7) (rk : k ≤ 15) (rN : N ≤ 16) (hN : g 254 2 = (N : Int)) (hO : OHM g k w p q t f s b) (hv : g 254 (51 + 8 * p + t) = v) (hlt : k < N) (h : zr sv L (n + 1) 280 20 lf [] g o) (hl0 : lf 0 = (4, 253)) (hl1 : lf 1 = (0, 6)) (hl2 : lf 2 = (0, u)) (hl3 : lf 3 = (0, (k : Int))) : ∃ lf', lf' 0 = (4, 253) ∧ lf' 1 = (0, 6) ∧ lf' 2 = (0, w32 (u + b)) ∧ lf' 3 = (0, 1 + (k : Int)) ∧ zr sv L n 280 20 lf' [] g o := by
  rw [zov hl0, zov hl1, zov hl2, zov hl3] at h
  have h := zm1 zy_280 h 5 (q := (cond (crel .ge ((k : Int)) (g 254 2)) 142 30, dset (dset (dset (dset lf 3 (0, (k : Int))) 2 (0, u)) 1 (0, 6)) 0 (4, 253), [], g)) rfl
  dsimp only at h
  try rw [hN] at h
  rcases zif_ge h with ⟨hc1, h⟩ | ⟨hc1, h⟩
  · exact absurd hc1 (by omega)
  · have h := zm zy_280 h 3 (q := (35, dset (dset (dset (dset lf 3 (0, (k : Int))) 2 (0, u)) 1 (0, 6)) 0 (4, 253), [(0, (k : Int)), (4, 254)], g)) rfl
    dsimp only at h
    obtain ⟨gz2, rz3, hk, h⟩ := zcallI zy_280 h rfl rfl zy_199 zk_199
    dsimp only at hk h
    have hO4 := h
    have h := hk
    clear hk
    have h := zm zy_199 h 5 (q := (7, darg 0 [(0, (k : Int))], [(0, w32 (99 + (w32 (8 * ((k : Int))))))], g)) rfl
    dsimp only at h
    try rw [w32_eq (z := 8 * ((k : Int))) (v := 8 * (k : Int)) (by omega) (by omega) (by omega)] at h
    try rw [w32_eq (z := 99 + (8 * (k : Int))) (v := 99 + 8 * (k : Int)) (by omega) (by omega) (by omega)] at h
    have h := zret zy_199 h rfl rfl
    obtain ⟨e1, e2⟩ := oI h
    have h := hO4
    rw [e1, e2] at h
    clear e1 e2
    clear hO4
    have h := zm zy_280 h 2 (q := (40, dset (dset (dset (dset lf 3 (0, (k : Int))) 2 (0, u)) 1 (0, 6)) 0 (4, 253), [(0, w32 ((99 + 8 * (k : Int)) + 5)), (4, 254)], g)) rfl
    dsimp only at h
    try rw [w32_eq (z := (99 + 8 * (k : Int)) + 5) (v := 104 + 8 * (k : Int)) (by omega) (by omega) (by omega)] at h
    have h := zald zy_280 h rfl rfl (dvb_254 (i := 104 + 8 * (k : Int)) (by omega) (by omega))
    dsimp only at h
    try rw [show (104 + 8 * (k : Int)).toNat = 104 + 8 * k from by omega] at h
    try rw [hO.2.2.2.2.2.1] at h
    have h := zm zy_280 h 17 (q := (113, dset (dset (dset (dset (dset lf 3 (0, (k : Int))) 2 (0, u)) 1 (0, 6)) 0 (4, 253)) 4 (0, s), [(0, (k : Int)), (4, 254), (0, u)], g)) rfl
    dsimp only at h
    obtain ⟨gz5, rz6, hk, h⟩ := zcallI zy_280 h rfl rfl zy_199 zk_199
    dsimp only at hk h
    have hO7 := h
    have h := hk
    clear hk
    have h := zm zy_199 h 5 (q := (7, darg 0 [(0, (k : Int))], [(0, w32 (99 + (w32 (8 * ((k : Int))))))], g)) rfl
    dsimp only at h
    try rw [w32_eq (z := 8 * ((k : Int))) (v := 8 * (k : Int)) (by omega) (by omega) (by omega)] at h
    try rw [w32_eq (z := 99 + (8 * (k : Int))) (v := 99 + 8 * (k : Int)) (by omega) (by omega) (by omega)] at h
    have h := zret zy_199 h rfl rfl
    obtain ⟨e1, e2⟩ := oI h
    have h := hO7
    rw [e1, e2] at h
    clear e1 e2
    clear hO7
    have h := zm zy_280 h 2 (q := (119, dset (dset (dset (dset (dset lf 3 (0, (k : Int))) 2 (0, u)) 1 (0, 6)) 0 (4, 253)) 4 (0, s), [(0, w32 ((99 + 8 * (k : Int)) + 6)), (4, 254), (0, u)], g)) rfl
    dsimp only at h
    try rw [w32_eq (z := (99 + 8 * (k : Int)) + 6) (v := 105 + 8 * (k : Int)) (by omega) (by omega) (by omega)] at h
    have h := zald zy_280 h rfl rfl (dvb_254 (i := 105 + 8 * (k : Int)) (by omega) (by omega))
    dsimp only at h
    try rw [show (105 + 8 * (k : Int)).toNat = 105 + 8 * k from by omega] at h
    try rw [hO.2.2.2.2.2.2] at h
    have h := zm zy_280 h 5 (q := (20, dset (dset (dset (dset (dset (dset (dset lf 3 (0, (k : Int))) 2 (0, u)) 1 (0, 6)) 0 (4, 253)) 4 (0, s)) 2 (0, w32 (u + b))) 3 (0, w32 (((k : Int)) + 1)), [], g)) rfl
    dsimp only at h
    try rw [w32_eq (z := ((k : Int)) + 1) (v := 1 + (k : Int)) (by omega) (by omega) (by omega)] at h
    exact ⟨_, rfl, rfl, rfl, rfl, h⟩
theorem m_td6_e {sv : Nat → Int32} {L n : Nat} {lf : dlf} {g : cg} {o : cg × Option cv} {k N : Nat} {u : Int} (rk : k ≤ 16) (rN : N ≤ 16) (hN : g 254 2 = (N : Int)) (hge : N ≤ k) (h : zr sv L (n + 1) 280 20 lf [] g o) (hl0 : lf 0 = (4, 253)) (hl1 : lf 1 = (0, 6)) (hl2 : lf 2 = (0, u)) (hl3 : lf 3 = (0, (k : Int))) : o = (cup g 253 2 0, some (0, u)) := by
  rw [zov hl0, zov hl1, zov hl2, zov hl3] at h
  have h := zm1 zy_280 h 5 (q := (cond (crel .ge ((k : Int)) (g 254 2)) 142 30, dset (dset (dset (dset lf 3 (0, (k : Int))) 2 (0, u)) 1 (0, 6)) 0 (4, 253), [], g)) rfl
  dsimp only at h
  try rw [hN] at h
  rcases zif_ge h with ⟨hc1, h⟩ | ⟨hc1, h⟩
  · have h := zm zy_280 h 9 (q := (175, dset (dset (dset (dset lf 3 (0, (k : Int))) 2 (0, u)) 1 (0, 6)) 0 (4, 253), [(0, u), (4, 253)], g)) rfl
    dsimp only at h
    obtain ⟨gz2, rz3, hk, h⟩ := zcallI zy_280 h rfl rfl zy_192 zk_192
    dsimp only at hk h
    have hO4 := h
    have h := hk
    clear hk
    have h := zm zy_192 h 4 (q := (6, darg 0 [(4, 253), (0, u)], [(0, u)], cup g 253 2 0)) rfl
    dsimp only at h
    have h := zret zy_192 h rfl rfl
    obtain ⟨e1, e2⟩ := oI h
    have h := hO4
    rw [e1, e2] at h
    clear e1 e2
    clear hO4
    exact zret zy_280 h rfl rfl
  · exact absurd hc1 (by omega)
theorem m_td7_s {sv : Nat → Int32} {L n : Nat} {lf : dlf} {g : cg} {o : cg × Option cv} {w p q t k N : Nat} {f s b u v : Int} (rw : w ≤ 5) (rp : p ≤ 5) (rq : q ≤ 4) (rt : t ≤ 7) (rk : k ≤ 15) (rN : N ≤ 16) (hN : g 254 2 = (N : Int)) (hO : OHM g k w p q t f s b) (hv : g 254 (51 + 8 * p + t) = v) (hlt : k < N) (h : zr sv L (n + 1) 280 20 lf [] g o) (hl0 : lf 0 = (4, 253)) (hl1 : lf 1 = (0, 7)) (hl2 : lf 2 = (0, u)) (hl3 : lf 3 = (0, (k : Int))) : ((s ≠ 2) ∧ (∃ lf', lf' 0 = (4, 253) ∧ lf' 1 = (0, 7) ∧ lf' 2 = (0, w32 (u + 0)) ∧ lf' 3 = (0, 1 + (k : Int)) ∧ zr sv L n 280 20 lf' [] g o)) ∨ ((s = 2) ∧ (∃ lf', lf' 0 = (4, 253) ∧ lf' 1 = (0, 7) ∧ lf' 2 = (0, w32 (u + 1)) ∧ lf' 3 = (0, 1 + (k : Int)) ∧ zr sv L n 280 20 lf' [] g o)) := by
  rw [zov hl0, zov hl1, zov hl2, zov hl3] at h
  have h := zm1 zy_280 h 5 (q := (cond (crel .ge ((k : Int)) (g 254 2)) 142 30, dset (dset (dset (dset lf 3 (0, (k : Int))) 2 (0, u)) 1 (0, 7)) 0 (4, 253), [], g)) rfl
  dsimp only at h
  try rw [hN] at h
  rcases zif_ge h with ⟨hc1, h⟩ | ⟨hc1, h⟩
  · exact absurd hc1 (by omega)
  · have h := zm zy_280 h 3 (q := (35, dset (dset (dset (dset lf 3 (0, (k : Int))) 2 (0, u)) 1 (0, 7)) 0 (4, 253), [(0, (k : Int)), (4, 254)], g)) rfl
    dsimp only at h
    obtain ⟨gz2, rz3, hk, h⟩ := zcallI zy_280 h rfl rfl zy_199 zk_199
    dsimp only at hk h
    have hO4 := h
    have h := hk
    clear hk
    have h := zm zy_199 h 5 (q := (7, darg 0 [(0, (k : Int))], [(0, w32 (99 + (w32 (8 * ((k : Int))))))], g)) rfl
    dsimp only at h
    try rw [w32_eq (z := 8 * ((k : Int))) (v := 8 * (k : Int)) (by omega) (by omega) (by omega)] at h
    try rw [w32_eq (z := 99 + (8 * (k : Int))) (v := 99 + 8 * (k : Int)) (by omega) (by omega) (by omega)] at h
    have h := zret zy_199 h rfl rfl
    obtain ⟨e1, e2⟩ := oI h
    have h := hO4
    rw [e1, e2] at h
    clear e1 e2
    clear hO4
    have h := zm zy_280 h 2 (q := (40, dset (dset (dset (dset lf 3 (0, (k : Int))) 2 (0, u)) 1 (0, 7)) 0 (4, 253), [(0, w32 ((99 + 8 * (k : Int)) + 5)), (4, 254)], g)) rfl
    dsimp only at h
    try rw [w32_eq (z := (99 + 8 * (k : Int)) + 5) (v := 104 + 8 * (k : Int)) (by omega) (by omega) (by omega)] at h
    have h := zald zy_280 h rfl rfl (dvb_254 (i := 104 + 8 * (k : Int)) (by omega) (by omega))
    dsimp only at h
    try rw [show (104 + 8 * (k : Int)).toNat = 104 + 8 * k from by omega] at h
    try rw [hO.2.2.2.2.2.1] at h
    have h := zm zy_280 h 17 (q := (cond (crel .ne s 2) 133 129, dset (dset (dset (dset (dset lf 3 (0, (k : Int))) 2 (0, u)) 1 (0, 7)) 0 (4, 253)) 4 (0, s), [(0, u)], g)) rfl
    dsimp only at h
    rcases zif_ne h with ⟨hc5, h⟩ | ⟨hc5, h⟩
    · have h := zm zy_280 h 5 (q := (20, dset (dset (dset (dset (dset (dset (dset lf 3 (0, (k : Int))) 2 (0, u)) 1 (0, 7)) 0 (4, 253)) 4 (0, s)) 2 (0, w32 (u + 0))) 3 (0, w32 (((k : Int)) + 1)), [], g)) rfl
      dsimp only at h
      try rw [w32_eq (z := ((k : Int)) + 1) (v := 1 + (k : Int)) (by omega) (by omega) (by omega)] at h
      refine Or.inl (⟨hc5, ?_⟩)
      exact ⟨_, rfl, rfl, rfl, rfl, h⟩
    · have h := zm zy_280 h 6 (q := (20, dset (dset (dset (dset (dset (dset (dset lf 3 (0, (k : Int))) 2 (0, u)) 1 (0, 7)) 0 (4, 253)) 4 (0, s)) 2 (0, w32 (u + 1))) 3 (0, w32 (((k : Int)) + 1)), [], g)) rfl
      dsimp only at h
      try rw [w32_eq (z := ((k : Int)) + 1) (v := 1 + (k : Int)) (by omega) (by omega) (by omega)] at h
      refine Or.inr (⟨hc5, ?_⟩)
      exact ⟨_, rfl, rfl, rfl, rfl, h⟩
theorem m_td7_e {sv : Nat → Int32} {L n : Nat} {lf : dlf} {g : cg} {o : cg × Option cv} {k N : Nat} {u : Int} (rk : k ≤ 16) (rN : N ≤ 16) (hN : g 254 2 = (N : Int)) (hge : N ≤ k) (h : zr sv L (n + 1) 280 20 lf [] g o) (hl0 : lf 0 = (4, 253)) (hl1 : lf 1 = (0, 7)) (hl2 : lf 2 = (0, u)) (hl3 : lf 3 = (0, (k : Int))) : o = (cup g 253 2 0, some (0, u)) := by
  rw [zov hl0, zov hl1, zov hl2, zov hl3] at h
  have h := zm1 zy_280 h 5 (q := (cond (crel .ge ((k : Int)) (g 254 2)) 142 30, dset (dset (dset (dset lf 3 (0, (k : Int))) 2 (0, u)) 1 (0, 7)) 0 (4, 253), [], g)) rfl
  dsimp only at h
  try rw [hN] at h
  rcases zif_ge h with ⟨hc1, h⟩ | ⟨hc1, h⟩
  · have h := zm zy_280 h 9 (q := (175, dset (dset (dset (dset lf 3 (0, (k : Int))) 2 (0, u)) 1 (0, 7)) 0 (4, 253), [(0, u), (4, 253)], g)) rfl
    dsimp only at h
    obtain ⟨gz2, rz3, hk, h⟩ := zcallI zy_280 h rfl rfl zy_192 zk_192
    dsimp only at hk h
    have hO4 := h
    have h := hk
    clear hk
    have h := zm zy_192 h 4 (q := (6, darg 0 [(4, 253), (0, u)], [(0, u)], cup g 253 2 0)) rfl
    dsimp only at h
    have h := zret zy_192 h rfl rfl
    obtain ⟨e1, e2⟩ := oI h
    have h := hO4
    rw [e1, e2] at h
    clear e1 e2
    clear hO4
    exact zret zy_280 h rfl rfl
  · exact absurd hc1 (by omega)
theorem m_td8_s {sv : Nat → Int32} {L n : Nat} {lf : dlf} {g : cg} {o : cg × Option cv} {w p q t k N : Nat} {f s b u v : Int} (rw : w ≤ 5) (rp : p ≤ 5) (rq : q ≤ 4) (rt : t ≤ 7) (rk : k ≤ 15) (rN : N ≤ 16) (hN : g 254 2 = (N : Int)) (hO : OHM g k w p q t f s b) (hv : g 254 (51 + 8 * p + t) = v) (hlt : k < N) (h : zr sv L (n + 1) 280 20 lf [] g o) (hl0 : lf 0 = (4, 253)) (hl1 : lf 1 = (0, 8)) (hl2 : lf 2 = (0, u)) (hl3 : lf 3 = (0, (k : Int))) : ((s ≠ 2) ∧ (∃ lf', lf' 0 = (4, 253) ∧ lf' 1 = (0, 8) ∧ lf' 2 = (0, w32 (u + 0)) ∧ lf' 3 = (0, 1 + (k : Int)) ∧ zr sv L n 280 20 lf' [] g o)) ∨ ((s = 2) ∧ (∃ lf', lf' 0 = (4, 253) ∧ lf' 1 = (0, 8) ∧ lf' 2 = (0, w32 (u + 1)) ∧ lf' 3 = (0, 1 + (k : Int)) ∧ zr sv L n 280 20 lf' [] g o)) := by
  rw [zov hl0, zov hl1, zov hl2, zov hl3] at h
  have h := zm1 zy_280 h 5 (q := (cond (crel .ge ((k : Int)) (g 254 2)) 142 30, dset (dset (dset (dset lf 3 (0, (k : Int))) 2 (0, u)) 1 (0, 8)) 0 (4, 253), [], g)) rfl
  dsimp only at h
  try rw [hN] at h
  rcases zif_ge h with ⟨hc1, h⟩ | ⟨hc1, h⟩
  · exact absurd hc1 (by omega)
  · have h := zm zy_280 h 3 (q := (35, dset (dset (dset (dset lf 3 (0, (k : Int))) 2 (0, u)) 1 (0, 8)) 0 (4, 253), [(0, (k : Int)), (4, 254)], g)) rfl
    dsimp only at h
    obtain ⟨gz2, rz3, hk, h⟩ := zcallI zy_280 h rfl rfl zy_199 zk_199
    dsimp only at hk h
    have hO4 := h
    have h := hk
    clear hk
    have h := zm zy_199 h 5 (q := (7, darg 0 [(0, (k : Int))], [(0, w32 (99 + (w32 (8 * ((k : Int))))))], g)) rfl
    dsimp only at h
    try rw [w32_eq (z := 8 * ((k : Int))) (v := 8 * (k : Int)) (by omega) (by omega) (by omega)] at h
    try rw [w32_eq (z := 99 + (8 * (k : Int))) (v := 99 + 8 * (k : Int)) (by omega) (by omega) (by omega)] at h
    have h := zret zy_199 h rfl rfl
    obtain ⟨e1, e2⟩ := oI h
    have h := hO4
    rw [e1, e2] at h
    clear e1 e2
    clear hO4
    have h := zm zy_280 h 2 (q := (40, dset (dset (dset (dset lf 3 (0, (k : Int))) 2 (0, u)) 1 (0, 8)) 0 (4, 253), [(0, w32 ((99 + 8 * (k : Int)) + 5)), (4, 254)], g)) rfl
    dsimp only at h
    try rw [w32_eq (z := (99 + 8 * (k : Int)) + 5) (v := 104 + 8 * (k : Int)) (by omega) (by omega) (by omega)] at h
    have h := zald zy_280 h rfl rfl (dvb_254 (i := 104 + 8 * (k : Int)) (by omega) (by omega))
    dsimp only at h
    try rw [show (104 + 8 * (k : Int)).toNat = 104 + 8 * k from by omega] at h
    try rw [hO.2.2.2.2.2.1] at h
    have h := zm zy_280 h 17 (q := (cond (crel .ne s 2) 133 129, dset (dset (dset (dset (dset lf 3 (0, (k : Int))) 2 (0, u)) 1 (0, 8)) 0 (4, 253)) 4 (0, s), [(0, u)], g)) rfl
    dsimp only at h
    rcases zif_ne h with ⟨hc5, h⟩ | ⟨hc5, h⟩
    · have h := zm zy_280 h 5 (q := (20, dset (dset (dset (dset (dset (dset (dset lf 3 (0, (k : Int))) 2 (0, u)) 1 (0, 8)) 0 (4, 253)) 4 (0, s)) 2 (0, w32 (u + 0))) 3 (0, w32 (((k : Int)) + 1)), [], g)) rfl
      dsimp only at h
      try rw [w32_eq (z := ((k : Int)) + 1) (v := 1 + (k : Int)) (by omega) (by omega) (by omega)] at h
      refine Or.inl (⟨hc5, ?_⟩)
      exact ⟨_, rfl, rfl, rfl, rfl, h⟩
    · have h := zm zy_280 h 6 (q := (20, dset (dset (dset (dset (dset (dset (dset lf 3 (0, (k : Int))) 2 (0, u)) 1 (0, 8)) 0 (4, 253)) 4 (0, s)) 2 (0, w32 (u + 1))) 3 (0, w32 (((k : Int)) + 1)), [], g)) rfl
      dsimp only at h
      try rw [w32_eq (z := ((k : Int)) + 1) (v := 1 + (k : Int)) (by omega) (by omega) (by omega)] at h
      refine Or.inr (⟨hc5, ?_⟩)
      exact ⟨_, rfl, rfl, rfl, rfl, h⟩
theorem m_td8_e {sv : Nat → Int32} {L n : Nat} {lf : dlf} {g : cg} {o : cg × Option cv} {k N : Nat} {u : Int} (rk : k ≤ 16) (rN : N ≤ 16) (hN : g 254 2 = (N : Int)) (hge : N ≤ k) (h : zr sv L (n + 1) 280 20 lf [] g o) (hl0 : lf 0 = (4, 253)) (hl1 : lf 1 = (0, 8)) (hl2 : lf 2 = (0, u)) (hl3 : lf 3 = (0, (k : Int))) : o = (cup g 253 2 0, some (0, g 254 3)) := by
  rw [zov hl0, zov hl1, zov hl2, zov hl3] at h
  have h := zm1 zy_280 h 5 (q := (cond (crel .ge ((k : Int)) (g 254 2)) 142 30, dset (dset (dset (dset lf 3 (0, (k : Int))) 2 (0, u)) 1 (0, 8)) 0 (4, 253), [], g)) rfl
  dsimp only at h
  try rw [hN] at h
  rcases zif_ge h with ⟨hc1, h⟩ | ⟨hc1, h⟩
  · have h := zm zy_280 h 13 (q := (175, dset (dset (dset (dset lf 3 (0, (k : Int))) 2 (0, u)) 1 (0, 8)) 0 (4, 253), [(0, g 254 3), (4, 253)], g)) rfl
    dsimp only at h
    obtain ⟨gz2, rz3, hk, h⟩ := zcallI zy_280 h rfl rfl zy_192 zk_192
    dsimp only at hk h
    have hO4 := h
    have h := hk
    clear hk
    have h := zm zy_192 h 4 (q := (6, darg 0 [(4, 253), (0, g 254 3)], [(0, g 254 3)], cup g 253 2 0)) rfl
    dsimp only at h
    have h := zret zy_192 h rfl rfl
    obtain ⟨e1, e2⟩ := oI h
    have h := hO4
    rw [e1, e2] at h
    clear e1 e2
    clear hO4
    exact zret zy_280 h rfl rfl
  · exact absurd hc1 (by omega)
theorem m_td9_s {sv : Nat → Int32} {L n : Nat} {lf : dlf} {g : cg} {o : cg × Option cv} {w p q t k N : Nat} {f s b u v : Int} (rw : w ≤ 5) (rp : p ≤ 5) (rq : q ≤ 4) (rt : t ≤ 7) (rk : k ≤ 15) (rN : N ≤ 16) (hN : g 254 2 = (N : Int)) (hO : OHM g k w p q t f s b) (hv : g 254 (51 + 8 * p + t) = v) (hlt : k < N) (h : zr sv L (n + 1) 280 20 lf [] g o) (hl0 : lf 0 = (4, 253)) (hl1 : lf 1 = (0, 9)) (hl2 : lf 2 = (0, u)) (hl3 : lf 3 = (0, (k : Int))) : ((s ≠ 2) ∧ (∃ lf', lf' 0 = (4, 253) ∧ lf' 1 = (0, 9) ∧ lf' 2 = (0, w32 (u + 0)) ∧ lf' 3 = (0, 1 + (k : Int)) ∧ zr sv L n 280 20 lf' [] g o)) ∨ ((s = 2) ∧ (∃ lf', lf' 0 = (4, 253) ∧ lf' 1 = (0, 9) ∧ lf' 2 = (0, w32 (u + 1)) ∧ lf' 3 = (0, 1 + (k : Int)) ∧ zr sv L n 280 20 lf' [] g o)) := by
  rw [zov hl0, zov hl1, zov hl2, zov hl3] at h
  have h := zm1 zy_280 h 5 (q := (cond (crel .ge ((k : Int)) (g 254 2)) 142 30, dset (dset (dset (dset lf 3 (0, (k : Int))) 2 (0, u)) 1 (0, 9)) 0 (4, 253), [], g)) rfl
  dsimp only at h
  try rw [hN] at h
  rcases zif_ge h with ⟨hc1, h⟩ | ⟨hc1, h⟩
  · exact absurd hc1 (by omega)
  · have h := zm zy_280 h 3 (q := (35, dset (dset (dset (dset lf 3 (0, (k : Int))) 2 (0, u)) 1 (0, 9)) 0 (4, 253), [(0, (k : Int)), (4, 254)], g)) rfl
    dsimp only at h
    obtain ⟨gz2, rz3, hk, h⟩ := zcallI zy_280 h rfl rfl zy_199 zk_199
    dsimp only at hk h
    have hO4 := h
    have h := hk
    clear hk
    have h := zm zy_199 h 5 (q := (7, darg 0 [(0, (k : Int))], [(0, w32 (99 + (w32 (8 * ((k : Int))))))], g)) rfl
    dsimp only at h
    try rw [w32_eq (z := 8 * ((k : Int))) (v := 8 * (k : Int)) (by omega) (by omega) (by omega)] at h
    try rw [w32_eq (z := 99 + (8 * (k : Int))) (v := 99 + 8 * (k : Int)) (by omega) (by omega) (by omega)] at h
    have h := zret zy_199 h rfl rfl
    obtain ⟨e1, e2⟩ := oI h
    have h := hO4
    rw [e1, e2] at h
    clear e1 e2
    clear hO4
    have h := zm zy_280 h 2 (q := (40, dset (dset (dset (dset lf 3 (0, (k : Int))) 2 (0, u)) 1 (0, 9)) 0 (4, 253), [(0, w32 ((99 + 8 * (k : Int)) + 5)), (4, 254)], g)) rfl
    dsimp only at h
    try rw [w32_eq (z := (99 + 8 * (k : Int)) + 5) (v := 104 + 8 * (k : Int)) (by omega) (by omega) (by omega)] at h
    have h := zald zy_280 h rfl rfl (dvb_254 (i := 104 + 8 * (k : Int)) (by omega) (by omega))
    dsimp only at h
    try rw [show (104 + 8 * (k : Int)).toNat = 104 + 8 * k from by omega] at h
    try rw [hO.2.2.2.2.2.1] at h
    have h := zm zy_280 h 17 (q := (cond (crel .ne s 2) 133 129, dset (dset (dset (dset (dset lf 3 (0, (k : Int))) 2 (0, u)) 1 (0, 9)) 0 (4, 253)) 4 (0, s), [(0, u)], g)) rfl
    dsimp only at h
    rcases zif_ne h with ⟨hc5, h⟩ | ⟨hc5, h⟩
    · have h := zm zy_280 h 5 (q := (20, dset (dset (dset (dset (dset (dset (dset lf 3 (0, (k : Int))) 2 (0, u)) 1 (0, 9)) 0 (4, 253)) 4 (0, s)) 2 (0, w32 (u + 0))) 3 (0, w32 (((k : Int)) + 1)), [], g)) rfl
      dsimp only at h
      try rw [w32_eq (z := ((k : Int)) + 1) (v := 1 + (k : Int)) (by omega) (by omega) (by omega)] at h
      refine Or.inl (⟨hc5, ?_⟩)
      exact ⟨_, rfl, rfl, rfl, rfl, h⟩
    · have h := zm zy_280 h 6 (q := (20, dset (dset (dset (dset (dset (dset (dset lf 3 (0, (k : Int))) 2 (0, u)) 1 (0, 9)) 0 (4, 253)) 4 (0, s)) 2 (0, w32 (u + 1))) 3 (0, w32 (((k : Int)) + 1)), [], g)) rfl
      dsimp only at h
      try rw [w32_eq (z := ((k : Int)) + 1) (v := 1 + (k : Int)) (by omega) (by omega) (by omega)] at h
      refine Or.inr (⟨hc5, ?_⟩)
      exact ⟨_, rfl, rfl, rfl, rfl, h⟩
theorem m_td9_e {sv : Nat → Int32} {L n : Nat} {lf : dlf} {g : cg} {o : cg × Option cv} {k N : Nat} {u : Int} (rk : k ≤ 16) (rN : N ≤ 16) (hN : g 254 2 = (N : Int)) (hge : N ≤ k) (h : zr sv L (n + 1) 280 20 lf [] g o) (hl0 : lf 0 = (4, 253)) (hl1 : lf 1 = (0, 9)) (hl2 : lf 2 = (0, u)) (hl3 : lf 3 = (0, (k : Int))) : o = (cup g 253 2 0, some (0, g 254 4)) := by
  rw [zov hl0, zov hl1, zov hl2, zov hl3] at h
  have h := zm1 zy_280 h 5 (q := (cond (crel .ge ((k : Int)) (g 254 2)) 142 30, dset (dset (dset (dset lf 3 (0, (k : Int))) 2 (0, u)) 1 (0, 9)) 0 (4, 253), [], g)) rfl
  dsimp only at h
  try rw [hN] at h
  rcases zif_ge h with ⟨hc1, h⟩ | ⟨hc1, h⟩
  · have h := zm zy_280 h 13 (q := (175, dset (dset (dset (dset lf 3 (0, (k : Int))) 2 (0, u)) 1 (0, 9)) 0 (4, 253), [(0, g 254 4), (4, 253)], g)) rfl
    dsimp only at h
    obtain ⟨gz2, rz3, hk, h⟩ := zcallI zy_280 h rfl rfl zy_192 zk_192
    dsimp only at hk h
    have hO4 := h
    have h := hk
    clear hk
    have h := zm zy_192 h 4 (q := (6, darg 0 [(4, 253), (0, g 254 4)], [(0, g 254 4)], cup g 253 2 0)) rfl
    dsimp only at h
    have h := zret zy_192 h rfl rfl
    obtain ⟨e1, e2⟩ := oI h
    have h := hO4
    rw [e1, e2] at h
    clear e1 e2
    clear hO4
    exact zret zy_280 h rfl rfl
  · exact absurd hc1 (by omega)
theorem m_td10_s {sv : Nat → Int32} {L n : Nat} {lf : dlf} {g : cg} {o : cg × Option cv} {w p q t k N : Nat} {f s b u v : Int} (rw : w ≤ 5) (rp : p ≤ 5) (rq : q ≤ 4) (rt : t ≤ 7) (rk : k ≤ 15) (rN : N ≤ 16) (hN : g 254 2 = (N : Int)) (hO : OHM g k w p q t f s b) (hv : g 254 (51 + 8 * p + t) = v) (hlt : k < N) (h : zr sv L (n + 1) 280 20 lf [] g o) (hl0 : lf 0 = (4, 253)) (hl1 : lf 1 = (0, 10)) (hl2 : lf 2 = (0, u)) (hl3 : lf 3 = (0, (k : Int))) : ((s ≠ 2) ∧ (∃ lf', lf' 0 = (4, 253) ∧ lf' 1 = (0, 10) ∧ lf' 2 = (0, w32 (u + 0)) ∧ lf' 3 = (0, 1 + (k : Int)) ∧ zr sv L n 280 20 lf' [] g o)) ∨ ((s = 2) ∧ (∃ lf', lf' 0 = (4, 253) ∧ lf' 1 = (0, 10) ∧ lf' 2 = (0, w32 (u + 1)) ∧ lf' 3 = (0, 1 + (k : Int)) ∧ zr sv L n 280 20 lf' [] g o)) := by
  rw [zov hl0, zov hl1, zov hl2, zov hl3] at h
  have h := zm1 zy_280 h 5 (q := (cond (crel .ge ((k : Int)) (g 254 2)) 142 30, dset (dset (dset (dset lf 3 (0, (k : Int))) 2 (0, u)) 1 (0, 10)) 0 (4, 253), [], g)) rfl
  dsimp only at h
  try rw [hN] at h
  rcases zif_ge h with ⟨hc1, h⟩ | ⟨hc1, h⟩
  · exact absurd hc1 (by omega)
  · have h := zm zy_280 h 3 (q := (35, dset (dset (dset (dset lf 3 (0, (k : Int))) 2 (0, u)) 1 (0, 10)) 0 (4, 253), [(0, (k : Int)), (4, 254)], g)) rfl
    dsimp only at h
    obtain ⟨gz2, rz3, hk, h⟩ := zcallI zy_280 h rfl rfl zy_199 zk_199
    dsimp only at hk h
    have hO4 := h
    have h := hk
    clear hk
    have h := zm zy_199 h 5 (q := (7, darg 0 [(0, (k : Int))], [(0, w32 (99 + (w32 (8 * ((k : Int))))))], g)) rfl
    dsimp only at h
    try rw [w32_eq (z := 8 * ((k : Int))) (v := 8 * (k : Int)) (by omega) (by omega) (by omega)] at h
    try rw [w32_eq (z := 99 + (8 * (k : Int))) (v := 99 + 8 * (k : Int)) (by omega) (by omega) (by omega)] at h
    have h := zret zy_199 h rfl rfl
    obtain ⟨e1, e2⟩ := oI h
    have h := hO4
    rw [e1, e2] at h
    clear e1 e2
    clear hO4
    have h := zm zy_280 h 2 (q := (40, dset (dset (dset (dset lf 3 (0, (k : Int))) 2 (0, u)) 1 (0, 10)) 0 (4, 253), [(0, w32 ((99 + 8 * (k : Int)) + 5)), (4, 254)], g)) rfl
    dsimp only at h
    try rw [w32_eq (z := (99 + 8 * (k : Int)) + 5) (v := 104 + 8 * (k : Int)) (by omega) (by omega) (by omega)] at h
    have h := zald zy_280 h rfl rfl (dvb_254 (i := 104 + 8 * (k : Int)) (by omega) (by omega))
    dsimp only at h
    try rw [show (104 + 8 * (k : Int)).toNat = 104 + 8 * k from by omega] at h
    try rw [hO.2.2.2.2.2.1] at h
    have h := zm zy_280 h 17 (q := (cond (crel .ne s 2) 133 129, dset (dset (dset (dset (dset lf 3 (0, (k : Int))) 2 (0, u)) 1 (0, 10)) 0 (4, 253)) 4 (0, s), [(0, u)], g)) rfl
    dsimp only at h
    rcases zif_ne h with ⟨hc5, h⟩ | ⟨hc5, h⟩
    · have h := zm zy_280 h 5 (q := (20, dset (dset (dset (dset (dset (dset (dset lf 3 (0, (k : Int))) 2 (0, u)) 1 (0, 10)) 0 (4, 253)) 4 (0, s)) 2 (0, w32 (u + 0))) 3 (0, w32 (((k : Int)) + 1)), [], g)) rfl
      dsimp only at h
      try rw [w32_eq (z := ((k : Int)) + 1) (v := 1 + (k : Int)) (by omega) (by omega) (by omega)] at h
      refine Or.inl (⟨hc5, ?_⟩)
      exact ⟨_, rfl, rfl, rfl, rfl, h⟩
    · have h := zm zy_280 h 6 (q := (20, dset (dset (dset (dset (dset (dset (dset lf 3 (0, (k : Int))) 2 (0, u)) 1 (0, 10)) 0 (4, 253)) 4 (0, s)) 2 (0, w32 (u + 1))) 3 (0, w32 (((k : Int)) + 1)), [], g)) rfl
      dsimp only at h
      try rw [w32_eq (z := ((k : Int)) + 1) (v := 1 + (k : Int)) (by omega) (by omega) (by omega)] at h
      refine Or.inr (⟨hc5, ?_⟩)
      exact ⟨_, rfl, rfl, rfl, rfl, h⟩
theorem m_td10_e {sv : Nat → Int32} {L n : Nat} {lf : dlf} {g : cg} {o : cg × Option cv} {k N : Nat} {u : Int} (rk : k ≤ 16) (rN : N ≤ 16) (hN : g 254 2 = (N : Int)) (hge : N ≤ k) (h : zr sv L (n + 1) 280 20 lf [] g o) (hl0 : lf 0 = (4, 253)) (hl1 : lf 1 = (0, 10)) (hl2 : lf 2 = (0, u)) (hl3 : lf 3 = (0, (k : Int))) : o = (cup g 253 2 0, some (0, g 254 5)) := by
  rw [zov hl0, zov hl1, zov hl2, zov hl3] at h
  have h := zm1 zy_280 h 5 (q := (cond (crel .ge ((k : Int)) (g 254 2)) 142 30, dset (dset (dset (dset lf 3 (0, (k : Int))) 2 (0, u)) 1 (0, 10)) 0 (4, 253), [], g)) rfl
  dsimp only at h
  try rw [hN] at h
  rcases zif_ge h with ⟨hc1, h⟩ | ⟨hc1, h⟩
  · have h := zm zy_280 h 13 (q := (175, dset (dset (dset (dset lf 3 (0, (k : Int))) 2 (0, u)) 1 (0, 10)) 0 (4, 253), [(0, g 254 5), (4, 253)], g)) rfl
    dsimp only at h
    obtain ⟨gz2, rz3, hk, h⟩ := zcallI zy_280 h rfl rfl zy_192 zk_192
    dsimp only at hk h
    have hO4 := h
    have h := hk
    clear hk
    have h := zm zy_192 h 4 (q := (6, darg 0 [(4, 253), (0, g 254 5)], [(0, g 254 5)], cup g 253 2 0)) rfl
    dsimp only at h
    have h := zret zy_192 h rfl rfl
    obtain ⟨e1, e2⟩ := oI h
    have h := hO4
    rw [e1, e2] at h
    clear e1 e2
    clear hO4
    exact zret zy_280 h rfl rfl
  · exact absurd hc1 (by omega)
theorem m_td11_s {sv : Nat → Int32} {L n : Nat} {lf : dlf} {g : cg} {o : cg × Option cv} {w p q t k N : Nat} {f s b u v : Int} (rw : w ≤ 5) (rp : p ≤ 5) (rq : q ≤ 4) (rt : t ≤ 7) (rk : k ≤ 15) (rN : N ≤ 16) (hN : g 254 2 = (N : Int)) (hO : OHM g k w p q t f s b) (hv : g 254 (51 + 8 * p + t) = v) (hlt : k < N) (h : zr sv L (n + 1) 280 20 lf [] g o) (hl0 : lf 0 = (4, 253)) (hl1 : lf 1 = (0, 11)) (hl2 : lf 2 = (0, u)) (hl3 : lf 3 = (0, (k : Int))) : ((s ≠ 2) ∧ (∃ lf', lf' 0 = (4, 253) ∧ lf' 1 = (0, 11) ∧ lf' 2 = (0, w32 (u + 0)) ∧ lf' 3 = (0, 1 + (k : Int)) ∧ zr sv L n 280 20 lf' [] g o)) ∨ ((s = 2) ∧ (∃ lf', lf' 0 = (4, 253) ∧ lf' 1 = (0, 11) ∧ lf' 2 = (0, w32 (u + 1)) ∧ lf' 3 = (0, 1 + (k : Int)) ∧ zr sv L n 280 20 lf' [] g o)) := by
  rw [zov hl0, zov hl1, zov hl2, zov hl3] at h
  have h := zm1 zy_280 h 5 (q := (cond (crel .ge ((k : Int)) (g 254 2)) 142 30, dset (dset (dset (dset lf 3 (0, (k : Int))) 2 (0, u)) 1 (0, 11)) 0 (4, 253), [], g)) rfl
  dsimp only at h
  try rw [hN] at h
  rcases zif_ge h with ⟨hc1, h⟩ | ⟨hc1, h⟩
  · exact absurd hc1 (by omega)
  · have h := zm zy_280 h 3 (q := (35, dset (dset (dset (dset lf 3 (0, (k : Int))) 2 (0, u)) 1 (0, 11)) 0 (4, 253), [(0, (k : Int)), (4, 254)], g)) rfl
    dsimp only at h
    obtain ⟨gz2, rz3, hk, h⟩ := zcallI zy_280 h rfl rfl zy_199 zk_199
    dsimp only at hk h
    have hO4 := h
    have h := hk
    clear hk
    have h := zm zy_199 h 5 (q := (7, darg 0 [(0, (k : Int))], [(0, w32 (99 + (w32 (8 * ((k : Int))))))], g)) rfl
    dsimp only at h
    try rw [w32_eq (z := 8 * ((k : Int))) (v := 8 * (k : Int)) (by omega) (by omega) (by omega)] at h
    try rw [w32_eq (z := 99 + (8 * (k : Int))) (v := 99 + 8 * (k : Int)) (by omega) (by omega) (by omega)] at h
    have h := zret zy_199 h rfl rfl
    obtain ⟨e1, e2⟩ := oI h
    have h := hO4
    rw [e1, e2] at h
    clear e1 e2
    clear hO4
    have h := zm zy_280 h 2 (q := (40, dset (dset (dset (dset lf 3 (0, (k : Int))) 2 (0, u)) 1 (0, 11)) 0 (4, 253), [(0, w32 ((99 + 8 * (k : Int)) + 5)), (4, 254)], g)) rfl
    dsimp only at h
    try rw [w32_eq (z := (99 + 8 * (k : Int)) + 5) (v := 104 + 8 * (k : Int)) (by omega) (by omega) (by omega)] at h
    have h := zald zy_280 h rfl rfl (dvb_254 (i := 104 + 8 * (k : Int)) (by omega) (by omega))
    dsimp only at h
    try rw [show (104 + 8 * (k : Int)).toNat = 104 + 8 * k from by omega] at h
    try rw [hO.2.2.2.2.2.1] at h
    have h := zm zy_280 h 17 (q := (cond (crel .ne s 2) 133 129, dset (dset (dset (dset (dset lf 3 (0, (k : Int))) 2 (0, u)) 1 (0, 11)) 0 (4, 253)) 4 (0, s), [(0, u)], g)) rfl
    dsimp only at h
    rcases zif_ne h with ⟨hc5, h⟩ | ⟨hc5, h⟩
    · have h := zm zy_280 h 5 (q := (20, dset (dset (dset (dset (dset (dset (dset lf 3 (0, (k : Int))) 2 (0, u)) 1 (0, 11)) 0 (4, 253)) 4 (0, s)) 2 (0, w32 (u + 0))) 3 (0, w32 (((k : Int)) + 1)), [], g)) rfl
      dsimp only at h
      try rw [w32_eq (z := ((k : Int)) + 1) (v := 1 + (k : Int)) (by omega) (by omega) (by omega)] at h
      refine Or.inl (⟨hc5, ?_⟩)
      exact ⟨_, rfl, rfl, rfl, rfl, h⟩
    · have h := zm zy_280 h 6 (q := (20, dset (dset (dset (dset (dset (dset (dset lf 3 (0, (k : Int))) 2 (0, u)) 1 (0, 11)) 0 (4, 253)) 4 (0, s)) 2 (0, w32 (u + 1))) 3 (0, w32 (((k : Int)) + 1)), [], g)) rfl
      dsimp only at h
      try rw [w32_eq (z := ((k : Int)) + 1) (v := 1 + (k : Int)) (by omega) (by omega) (by omega)] at h
      refine Or.inr (⟨hc5, ?_⟩)
      exact ⟨_, rfl, rfl, rfl, rfl, h⟩
theorem m_td11_e {sv : Nat → Int32} {L n : Nat} {lf : dlf} {g : cg} {o : cg × Option cv} {k N : Nat} {u : Int} (rk : k ≤ 16) (rN : N ≤ 16) (hN : g 254 2 = (N : Int)) (hge : N ≤ k) (h : zr sv L (n + 1) 280 20 lf [] g o) (hl0 : lf 0 = (4, 253)) (hl1 : lf 1 = (0, 11)) (hl2 : lf 2 = (0, u)) (hl3 : lf 3 = (0, (k : Int))) : o = (cup g 253 2 0, some (0, g 254 6)) := by
  rw [zov hl0, zov hl1, zov hl2, zov hl3] at h
  have h := zm1 zy_280 h 5 (q := (cond (crel .ge ((k : Int)) (g 254 2)) 142 30, dset (dset (dset (dset lf 3 (0, (k : Int))) 2 (0, u)) 1 (0, 11)) 0 (4, 253), [], g)) rfl
  dsimp only at h
  try rw [hN] at h
  rcases zif_ge h with ⟨hc1, h⟩ | ⟨hc1, h⟩
  · have h := zm zy_280 h 13 (q := (175, dset (dset (dset (dset lf 3 (0, (k : Int))) 2 (0, u)) 1 (0, 11)) 0 (4, 253), [(0, g 254 6), (4, 253)], g)) rfl
    dsimp only at h
    obtain ⟨gz2, rz3, hk, h⟩ := zcallI zy_280 h rfl rfl zy_192 zk_192
    dsimp only at hk h
    have hO4 := h
    have h := hk
    clear hk
    have h := zm zy_192 h 4 (q := (6, darg 0 [(4, 253), (0, g 254 6)], [(0, g 254 6)], cup g 253 2 0)) rfl
    dsimp only at h
    have h := zret zy_192 h rfl rfl
    obtain ⟨e1, e2⟩ := oI h
    have h := hO4
    rw [e1, e2] at h
    clear e1 e2
    clear hO4
    exact zret zy_280 h rfl rfl
  · exact absurd hc1 (by omega)
theorem t_lir0 {sv : Nat → Int32} {L n : Nat} {lf : dlf} {g : cg} {o : cg × Option cv} (h : zr sv L n 347 0 lf [] g o) (hl0 : lf 0 = (4, 0)) : ∃ lf', lf' 0 = (4, 0) ∧ lf' 1 = (0, 0) ∧ lf' 2 = (0, (-1)) ∧ lf' 3 = (0, 0) ∧ zr sv L n 347 6 lf' [] g o := by
  rw [zov hl0] at h
  have h := zm zy_347 h 6 (q := (6, dset (dset (dset (dset lf 0 (4, 0)) 1 (0, 0)) 2 (0, (-1))) 3 (0, 0), [], g)) rfl
  dsimp only at h
  exact ⟨_, rfl, rfl, rfl, rfl, h⟩
theorem t_lir_s {sv : Nat → Int32} {L n : Nat} {lf : dlf} {g : cg} {o : cg × Option cv} {m k N : Nat} {w : Int} (rm : m ≤ 16) (rk : k ≤ 5) (rN : N ≤ 6) (hQ : g 3 3 = (N : Int)) (hlt : k < N) (h : zr sv L (n + 1) 347 6 lf [] g o) (hl0 : lf 0 = (4, 0)) (hl1 : lf 1 = (0, (m : Int))) (hl2 : lf 2 = (0, w)) (hl3 : lf 3 = (0, (k : Int))) : ∃ g_1 r_1, zr sv L n 136 0 (darg 0 [(4, 3), (0, (k : Int)), (0, 0)]) [] g (g_1, some (0, r_1)) ∧ (((r_1 ≤ (m : Int)) ∧ (∃ lf', lf' 0 = (4, 0) ∧ lf' 1 = (0, (m : Int)) ∧ lf' 2 = (0, w) ∧ lf' 3 = (0, 1 + (k : Int)) ∧ zr sv L n 347 6 lf' [] g_1 o)) ∨ (((m : Int) < r_1) ∧ (∃ lf', lf' 0 = (4, 0) ∧ lf' 1 = (0, r_1) ∧ lf' 2 = (0, (k : Int)) ∧ lf' 3 = (0, 1 + (k : Int)) ∧ zr sv L n 347 6 lf' [] g_1 o))) := by
  rw [zov hl0, zov hl1, zov hl2, zov hl3] at h
  have h := zm1 zy_347 h 4 (q := (cond (crel .ge ((k : Int)) (g 3 3)) 45 17, dset (dset (dset (dset lf 3 (0, (k : Int))) 2 (0, w)) 1 (0, (m : Int))) 0 (4, 0), [], g)) rfl
  dsimp only at h
  try rw [hQ] at h
  rcases zif_ge h with ⟨hc1, h⟩ | ⟨hc1, h⟩
  · exact absurd hc1 (by omega)
  · have h := zm zy_347 h 4 (q := (23, dset (dset (dset (dset lf 3 (0, (k : Int))) 2 (0, w)) 1 (0, (m : Int))) 0 (4, 0), [(0, 0), (0, (k : Int)), (4, 3)], g)) rfl
    dsimp only at h
    obtain ⟨g_1, r_1, hk, h⟩ := zcallI zy_347 h rfl rfl zy_136 zk_136
    dsimp only at hk h
    refine ⟨g_1, r_1, hk, ?_⟩
    have h := zm zy_347 h 4 (q := (cond (crel .le r_1 ((m : Int))) 39 34, dset (dset (dset (dset (dset lf 3 (0, (k : Int))) 2 (0, w)) 1 (0, (m : Int))) 0 (4, 0)) 4 (0, r_1), [], g_1)) rfl
    dsimp only at h
    rcases zif_le h with ⟨hc2, h⟩ | ⟨hc2, h⟩
    · have h := zm zy_347 h 2 (q := (6, dset (dset (dset (dset (dset (dset lf 3 (0, (k : Int))) 2 (0, w)) 1 (0, (m : Int))) 0 (4, 0)) 4 (0, r_1)) 3 (0, w32 (((k : Int)) + 1)), [], g_1)) rfl
      dsimp only at h
      try rw [w32_eq (z := ((k : Int)) + 1) (v := 1 + (k : Int)) (by omega) (by omega) (by omega)] at h
      refine Or.inl (⟨hc2, ?_⟩)
      exact ⟨_, rfl, rfl, rfl, rfl, h⟩
    · have h := zm zy_347 h 6 (q := (6, dset (dset (dset (dset (dset (dset (dset (dset lf 3 (0, (k : Int))) 2 (0, w)) 1 (0, (m : Int))) 0 (4, 0)) 4 (0, r_1)) 1 (0, r_1)) 2 (0, (k : Int))) 3 (0, w32 (((k : Int)) + 1)), [], g_1)) rfl
      dsimp only at h
      try rw [w32_eq (z := ((k : Int)) + 1) (v := 1 + (k : Int)) (by omega) (by omega) (by omega)] at h
      refine Or.inr (⟨hc2, ?_⟩)
      exact ⟨_, rfl, rfl, rfl, rfl, h⟩
theorem t_lir_e {sv : Nat → Int32} {L n : Nat} {lf : dlf} {g : cg} {o : cg × Option cv} {m k N : Nat} {w : Int} (rm : m ≤ 16) (rk : k ≤ 6) (rN : N ≤ 6) (hQ : g 3 3 = (N : Int)) (hge : N ≤ k) (h : zr sv L (n + 1) 347 6 lf [] g o) (hl0 : lf 0 = (4, 0)) (hl1 : lf 1 = (0, (m : Int))) (hl2 : lf 2 = (0, w)) (hl3 : lf 3 = (0, (k : Int))) : ((w ≠ (-1)) ∧ (o = (cup g 0 0 0, some (0, w)))) ∨ ((w = (-1)) ∧ (o = (cup g 0 0 6, some (0, (-1))))) := by
  rw [zov hl0, zov hl1, zov hl2, zov hl3] at h
  have h := zm1 zy_347 h 4 (q := (cond (crel .ge ((k : Int)) (g 3 3)) 45 17, dset (dset (dset (dset lf 3 (0, (k : Int))) 2 (0, w)) 1 (0, (m : Int))) 0 (4, 0), [], g)) rfl
  dsimp only at h
  try rw [hQ] at h
  rcases zif_ge h with ⟨hc1, h⟩ | ⟨hc1, h⟩
  · have h := zm zy_347 h 3 (q := (cond (crel .ne w ((-1))) 59 50, dset (dset (dset (dset lf 3 (0, (k : Int))) 2 (0, w)) 1 (0, (m : Int))) 0 (4, 0), [], g)) rfl
    dsimp only at h
    rcases zif_ne h with ⟨hc2, h⟩ | ⟨hc2, h⟩
    · have h := zm zy_347 h 2 (q := (61, dset (dset (dset (dset lf 3 (0, (k : Int))) 2 (0, w)) 1 (0, (m : Int))) 0 (4, 0), [(0, w), (4, 0)], g)) rfl
      dsimp only at h
      obtain ⟨gz3, rz4, hk, h⟩ := zcallI zy_347 h rfl rfl zy_64 zk_64
      dsimp only at hk h
      have hO5 := h
      have h := hk
      clear hk
      have h := zm zy_64 h 4 (q := (6, darg 0 [(4, 0), (0, w)], [(0, w)], cup g 0 0 0)) rfl
      dsimp only at h
      have h := zret zy_64 h rfl rfl
      obtain ⟨e1, e2⟩ := oI h
      have h := hO5
      rw [e1, e2] at h
      clear e1 e2
      clear hO5
      refine Or.inl (⟨hc2, ?_⟩)
      exact zret zy_347 h rfl rfl
    · have h := zm zy_347 h 2 (q := (53, dset (dset (dset (dset lf 3 (0, (k : Int))) 2 (0, w)) 1 (0, (m : Int))) 0 (4, 0), [(0, 6), (4, 0)], g)) rfl
      dsimp only at h
      obtain ⟨gz6, rz7, hk, h⟩ := zcallI zy_347 h rfl rfl zy_29 zk_29
      dsimp only at hk h
      have hO8 := h
      have h := hk
      clear hk
      have h := zm zy_29 h 4 (q := (6, darg 0 [(4, 0), (0, 6)], [(0, (-1))], cup g 0 0 6)) rfl
      dsimp only at h
      have h := zret zy_29 h rfl rfl
      obtain ⟨e1, e2⟩ := oI h
      have h := hO8
      rw [e1, e2] at h
      clear e1 e2
      clear hO8
      have h := zm zy_347 h 1 (q := (64, dset (dset (dset (dset lf 3 (0, (k : Int))) 2 (0, w)) 1 (0, (m : Int))) 0 (4, 0), [(0, (-1))], cup g 0 0 6)) rfl
      dsimp only at h
      refine Or.inr (⟨hc2, ?_⟩)
      exact zret zy_347 h rfl rfl
  · exact absurd hc1 (by omega)
theorem m_lir0 {sv : Nat → Int32} {L n : Nat} {lf : dlf} {g : cg} {o : cg × Option cv} (h : zr sv L n 348 0 lf [] g o) (hl0 : lf 0 = (4, 253)) : ∃ lf', lf' 0 = (4, 253) ∧ lf' 1 = (0, (-1)) ∧ lf' 2 = (0, 0) ∧ zr sv L n 348 4 lf' [] g o := by
  rw [zov hl0] at h
  have h := zm zy_348 h 4 (q := (4, dset (dset (dset lf 0 (4, 253)) 1 (0, (-1))) 2 (0, 0), [], g)) rfl
  dsimp only at h
  exact ⟨_, rfl, rfl, rfl, h⟩
theorem m_lir_s {sv : Nat → Int32} {L n : Nat} {lf : dlf} {g : cg} {o : cg × Option cv} {k N : Nat} {w : Int} (rk : k ≤ 5) (rN : N ≤ 6) (hQ : g 254 1 = (N : Int)) (hlt : k < N) (h : zr sv L (n + 1) 348 4 lf [] g o) (hl0 : lf 0 = (4, 253)) (hl1 : lf 1 = (0, w)) (hl2 : lf 2 = (0, (k : Int))) : ∃ g_1 r_1, zr sv L n 243 0 (darg 0 [(4, 253), (0, (k : Int)), (0, 1)]) [] g (g_1, some (0, r_1)) ∧ (((w ≠ (-1)) ∧ (∃ g_2 r_2, zr sv L n 243 0 (darg 0 [(4, 253), (0, w), (0, 1)]) [] g_1 (g_2, some (0, r_2)) ∧ (((r_1 ≤ r_2) ∧ (∃ lf', lf' 0 = (4, 253) ∧ lf' 1 = (0, w) ∧ lf' 2 = (0, 1 + (k : Int)) ∧ zr sv L n 348 4 lf' [] g_2 o)) ∨ ((r_2 < r_1) ∧ (∃ lf', lf' 0 = (4, 253) ∧ lf' 1 = (0, (k : Int)) ∧ lf' 2 = (0, 1 + (k : Int)) ∧ zr sv L n 348 4 lf' [] g_2 o))))) ∨ ((w = (-1) ∧ r_1 ≤ 0) ∧ (∃ lf', lf' 0 = (4, 253) ∧ lf' 1 = (0, w) ∧ lf' 2 = (0, 1 + (k : Int)) ∧ zr sv L n 348 4 lf' [] g_1 o)) ∨ ((w = (-1) ∧ 0 < r_1) ∧ (∃ lf', lf' 0 = (4, 253) ∧ lf' 1 = (0, (k : Int)) ∧ lf' 2 = (0, 1 + (k : Int)) ∧ zr sv L n 348 4 lf' [] g_1 o))) := by
  rw [zov hl0, zov hl1, zov hl2] at h
  have h := zm1 zy_348 h 5 (q := (cond (crel .ge ((k : Int)) (g 254 1)) 46 14, dset (dset (dset lf 2 (0, (k : Int))) 1 (0, w)) 0 (4, 253), [], g)) rfl
  dsimp only at h
  try rw [hQ] at h
  rcases zif_ge h with ⟨hc1, h⟩ | ⟨hc1, h⟩
  · exact absurd hc1 (by omega)
  · have h := zm zy_348 h 3 (q := (17, dset (dset (dset lf 2 (0, (k : Int))) 1 (0, w)) 0 (4, 253), [(0, 1), (0, (k : Int)), (4, 253)], g)) rfl
    dsimp only at h
    obtain ⟨g_1, r_1, hk, h⟩ := zcallI zy_348 h rfl rfl zy_243 zk_243
    dsimp only at hk h
    refine ⟨g_1, r_1, hk, ?_⟩
    have h := zm zy_348 h 3 (q := (cond (crel .ne w ((-1))) 29 25, dset (dset (dset lf 2 (0, (k : Int))) 1 (0, w)) 0 (4, 253), [(0, r_1)], g_1)) rfl
    dsimp only at h
    rcases zif_ne h with ⟨hc2, h⟩ | ⟨hc2, h⟩
    · have h := zm zy_348 h 3 (q := (32, dset (dset (dset lf 2 (0, (k : Int))) 1 (0, w)) 0 (4, 253), [(0, 1), (0, w), (4, 253), (0, r_1)], g_1)) rfl
      dsimp only at h
      obtain ⟨g_2, r_2, hk, h⟩ := zcallI zy_348 h rfl rfl zy_243 zk_243
      dsimp only at hk h
      refine Or.inl (⟨hc2, ?_⟩)
      refine ⟨g_2, r_2, hk, ?_⟩
      have h := zm zy_348 h 1 (q := (cond (crel .le r_1 r_2) 40 38, dset (dset (dset lf 2 (0, (k : Int))) 1 (0, w)) 0 (4, 253), [], g_2)) rfl
      dsimp only at h
      rcases zif_le h with ⟨hc3, h⟩ | ⟨hc3, h⟩
      · have h := zm zy_348 h 2 (q := (4, dset (dset (dset (dset lf 2 (0, (k : Int))) 1 (0, w)) 0 (4, 253)) 2 (0, w32 (((k : Int)) + 1)), [], g_2)) rfl
        dsimp only at h
        try rw [w32_eq (z := ((k : Int)) + 1) (v := 1 + (k : Int)) (by omega) (by omega) (by omega)] at h
        refine Or.inl (⟨hc3, ?_⟩)
        exact ⟨_, rfl, rfl, rfl, h⟩
      · have h := zm zy_348 h 4 (q := (4, dset (dset (dset (dset (dset lf 2 (0, (k : Int))) 1 (0, w)) 0 (4, 253)) 1 (0, (k : Int))) 2 (0, w32 (((k : Int)) + 1)), [], g_2)) rfl
        dsimp only at h
        try rw [w32_eq (z := ((k : Int)) + 1) (v := 1 + (k : Int)) (by omega) (by omega) (by omega)] at h
        refine Or.inr (⟨hc3, ?_⟩)
        exact ⟨_, rfl, rfl, rfl, h⟩
    · have h := zm zy_348 h 3 (q := (cond (crel .le r_1 0) 40 38, dset (dset (dset lf 2 (0, (k : Int))) 1 (0, w)) 0 (4, 253), [], g_1)) rfl
      dsimp only at h
      rcases zif_le h with ⟨hc6, h⟩ | ⟨hc6, h⟩
      · have h := zm zy_348 h 2 (q := (4, dset (dset (dset (dset lf 2 (0, (k : Int))) 1 (0, w)) 0 (4, 253)) 2 (0, w32 (((k : Int)) + 1)), [], g_1)) rfl
        dsimp only at h
        try rw [w32_eq (z := ((k : Int)) + 1) (v := 1 + (k : Int)) (by omega) (by omega) (by omega)] at h
        refine Or.inr (Or.inl (⟨⟨hc2, hc6⟩, ?_⟩))
        exact ⟨_, rfl, rfl, rfl, h⟩
      · have h := zm zy_348 h 4 (q := (4, dset (dset (dset (dset (dset lf 2 (0, (k : Int))) 1 (0, w)) 0 (4, 253)) 1 (0, (k : Int))) 2 (0, w32 (((k : Int)) + 1)), [], g_1)) rfl
        dsimp only at h
        try rw [w32_eq (z := ((k : Int)) + 1) (v := 1 + (k : Int)) (by omega) (by omega) (by omega)] at h
        refine Or.inr (Or.inr (⟨⟨hc2, hc6⟩, ?_⟩))
        exact ⟨_, rfl, rfl, rfl, h⟩
theorem m_lir_e {sv : Nat → Int32} {L n : Nat} {lf : dlf} {g : cg} {o : cg × Option cv} {k N : Nat} {w : Int} (rk : k ≤ 6) (rN : N ≤ 6) (hQ : g 254 1 = (N : Int)) (hge : N ≤ k) (h : zr sv L (n + 1) 348 4 lf [] g o) (hl0 : lf 0 = (4, 253)) (hl1 : lf 1 = (0, w)) (hl2 : lf 2 = (0, (k : Int))) : ((w ≠ (-1)) ∧ (o = (cup g 253 2 0, some (0, w)))) ∨ ((w = (-1)) ∧ (o = (cup g 253 2 6, some (0, (-1))))) := by
  rw [zov hl0, zov hl1, zov hl2] at h
  have h := zm1 zy_348 h 5 (q := (cond (crel .ge ((k : Int)) (g 254 1)) 46 14, dset (dset (dset lf 2 (0, (k : Int))) 1 (0, w)) 0 (4, 253), [], g)) rfl
  dsimp only at h
  try rw [hQ] at h
  rcases zif_ge h with ⟨hc1, h⟩ | ⟨hc1, h⟩
  · have h := zm zy_348 h 2 (q := (48, dset (dset (dset lf 2 (0, (k : Int))) 1 (0, w)) 0 (4, 253), [(0, w), (4, 253)], g)) rfl
    dsimp only at h
    obtain ⟨gz2, rz3, hk, h⟩ := zcallI zy_348 h rfl rfl zy_210 zk_210
    dsimp only at hk h
    have hO4 := h
    have h := hk
    clear hk
    have h := zm zy_210 h 3 (q := (cond (crel .ne w ((-1))) 14 5, darg 0 [(4, 253), (0, w)], [], g)) rfl
    dsimp only at h
    rcases zif_ne h with ⟨hc5, h⟩ | ⟨hc5, h⟩
    · have h := zm zy_210 h 2 (q := (16, darg 0 [(4, 253), (0, w)], [(0, w), (4, 253)], g)) rfl
      dsimp only at h
      obtain ⟨gz6, rz7, hk, h⟩ := zcallI zy_210 h rfl rfl zy_192 zk_192
      dsimp only at hk h
      have hO8 := h
      have h := hk
      clear hk
      have h := zm zy_192 h 4 (q := (6, darg 0 [(4, 253), (0, w)], [(0, w)], cup g 253 2 0)) rfl
      dsimp only at h
      have h := zret zy_192 h rfl rfl
      obtain ⟨e1, e2⟩ := oI h
      have h := hO8
      rw [e1, e2] at h
      clear e1 e2
      clear hO8
      have h := zret zy_210 h rfl rfl
      obtain ⟨e1, e2⟩ := oI h
      have h := hO4
      rw [e1, e2] at h
      clear e1 e2
      clear hO4
      refine Or.inl (⟨hc5, ?_⟩)
      exact zret zy_348 h rfl rfl
    · have h := zm zy_210 h 2 (q := (8, darg 0 [(4, 253), (0, w)], [(0, 6), (4, 253)], g)) rfl
      dsimp only at h
      obtain ⟨gz9, rz10, hk, h⟩ := zcallI zy_210 h rfl rfl zy_170 zk_170
      dsimp only at hk h
      have hO11 := h
      have h := hk
      clear hk
      have h := zm zy_170 h 4 (q := (6, darg 0 [(4, 253), (0, 6)], [(0, (-1))], cup g 253 2 6)) rfl
      dsimp only at h
      have h := zret zy_170 h rfl rfl
      obtain ⟨e1, e2⟩ := oI h
      have h := hO11
      rw [e1, e2] at h
      clear e1 e2
      clear hO11
      have h := zm zy_210 h 1 (q := (19, darg 0 [(4, 253), (0, w)], [(0, (-1))], cup g 253 2 6)) rfl
      dsimp only at h
      have h := zret zy_210 h rfl rfl
      obtain ⟨e1, e2⟩ := oI h
      have h := hO4
      rw [e1, e2] at h
      clear e1 e2
      clear hO4
      refine Or.inr (⟨hc5, ?_⟩)
      exact zret zy_348 h rfl rfl
  · exact absurd hc1 (by omega)
theorem t_dbd0 {sv : Nat → Int32} {L n : Nat} {lf : dlf} {g : cg} {o : cg × Option cv} (h : zr sv L n 349 0 lf [] g o) (hl0 : lf 0 = (4, 0)) : ∃ lf', lf' 0 = (4, 0) ∧ lf' 1 = (0, 0) ∧ lf' 2 = (0, (-1)) ∧ lf' 3 = (0, 0) ∧ zr sv L n 349 6 lf' [] g o := by
  rw [zov hl0] at h
  have h := zm zy_349 h 6 (q := (6, dset (dset (dset (dset lf 0 (4, 0)) 1 (0, 0)) 2 (0, (-1))) 3 (0, 0), [], g)) rfl
  dsimp only at h
  exact ⟨_, rfl, rfl, rfl, rfl, h⟩
theorem t_dbd_s {sv : Nat → Int32} {L n : Nat} {lf : dlf} {g : cg} {o : cg × Option cv} {m k N : Nat} {w : Int} (rm : m ≤ 16) (rk : k ≤ 5) (rN : N ≤ 6) (hQ : g 3 3 = (N : Int)) (hlt : k < N) (h : zr sv L (n + 1) 349 6 lf [] g o) (hl0 : lf 0 = (4, 0)) (hl1 : lf 1 = (0, (m : Int))) (hl2 : lf 2 = (0, w)) (hl3 : lf 3 = (0, (k : Int))) : ∃ g_1 r_1, zr sv L n 124 0 (darg 0 [(4, 3), (0, (k : Int))]) [] g (g_1, some (0, r_1)) ∧ (((r_1 ≤ (m : Int)) ∧ (∃ lf', lf' 0 = (4, 0) ∧ lf' 1 = (0, (m : Int)) ∧ lf' 2 = (0, w) ∧ lf' 3 = (0, 1 + (k : Int)) ∧ zr sv L n 349 6 lf' [] g_1 o)) ∨ (((m : Int) < r_1) ∧ (∃ lf', lf' 0 = (4, 0) ∧ lf' 1 = (0, r_1) ∧ lf' 2 = (0, (k : Int)) ∧ lf' 3 = (0, 1 + (k : Int)) ∧ zr sv L n 349 6 lf' [] g_1 o))) := by
  rw [zov hl0, zov hl1, zov hl2, zov hl3] at h
  have h := zm1 zy_349 h 4 (q := (cond (crel .ge ((k : Int)) (g 3 3)) 44 17, dset (dset (dset (dset lf 3 (0, (k : Int))) 2 (0, w)) 1 (0, (m : Int))) 0 (4, 0), [], g)) rfl
  dsimp only at h
  try rw [hQ] at h
  rcases zif_ge h with ⟨hc1, h⟩ | ⟨hc1, h⟩
  · exact absurd hc1 (by omega)
  · have h := zm zy_349 h 3 (q := (22, dset (dset (dset (dset lf 3 (0, (k : Int))) 2 (0, w)) 1 (0, (m : Int))) 0 (4, 0), [(0, (k : Int)), (4, 3)], g)) rfl
    dsimp only at h
    obtain ⟨g_1, r_1, hk, h⟩ := zcallI zy_349 h rfl rfl zy_124 zk_124
    dsimp only at hk h
    refine ⟨g_1, r_1, hk, ?_⟩
    have h := zm zy_349 h 4 (q := (cond (crel .le r_1 ((m : Int))) 38 33, dset (dset (dset (dset (dset lf 3 (0, (k : Int))) 2 (0, w)) 1 (0, (m : Int))) 0 (4, 0)) 4 (0, r_1), [], g_1)) rfl
    dsimp only at h
    rcases zif_le h with ⟨hc2, h⟩ | ⟨hc2, h⟩
    · have h := zm zy_349 h 2 (q := (6, dset (dset (dset (dset (dset (dset lf 3 (0, (k : Int))) 2 (0, w)) 1 (0, (m : Int))) 0 (4, 0)) 4 (0, r_1)) 3 (0, w32 (((k : Int)) + 1)), [], g_1)) rfl
      dsimp only at h
      try rw [w32_eq (z := ((k : Int)) + 1) (v := 1 + (k : Int)) (by omega) (by omega) (by omega)] at h
      refine Or.inl (⟨hc2, ?_⟩)
      exact ⟨_, rfl, rfl, rfl, rfl, h⟩
    · have h := zm zy_349 h 6 (q := (6, dset (dset (dset (dset (dset (dset (dset (dset lf 3 (0, (k : Int))) 2 (0, w)) 1 (0, (m : Int))) 0 (4, 0)) 4 (0, r_1)) 1 (0, r_1)) 2 (0, (k : Int))) 3 (0, w32 (((k : Int)) + 1)), [], g_1)) rfl
      dsimp only at h
      try rw [w32_eq (z := ((k : Int)) + 1) (v := 1 + (k : Int)) (by omega) (by omega) (by omega)] at h
      refine Or.inr (⟨hc2, ?_⟩)
      exact ⟨_, rfl, rfl, rfl, rfl, h⟩
theorem t_dbd_e {sv : Nat → Int32} {L n : Nat} {lf : dlf} {g : cg} {o : cg × Option cv} {m k N : Nat} {w : Int} (rm : m ≤ 16) (rk : k ≤ 6) (rN : N ≤ 6) (hQ : g 3 3 = (N : Int)) (hge : N ≤ k) (h : zr sv L (n + 1) 349 6 lf [] g o) (hl0 : lf 0 = (4, 0)) (hl1 : lf 1 = (0, (m : Int))) (hl2 : lf 2 = (0, w)) (hl3 : lf 3 = (0, (k : Int))) : ((w ≠ (-1)) ∧ (o = (cup g 0 0 0, some (0, w)))) ∨ ((w = (-1)) ∧ (o = (cup g 0 0 6, some (0, (-1))))) := by
  rw [zov hl0, zov hl1, zov hl2, zov hl3] at h
  have h := zm1 zy_349 h 4 (q := (cond (crel .ge ((k : Int)) (g 3 3)) 44 17, dset (dset (dset (dset lf 3 (0, (k : Int))) 2 (0, w)) 1 (0, (m : Int))) 0 (4, 0), [], g)) rfl
  dsimp only at h
  try rw [hQ] at h
  rcases zif_ge h with ⟨hc1, h⟩ | ⟨hc1, h⟩
  · have h := zm zy_349 h 3 (q := (cond (crel .ne w ((-1))) 58 49, dset (dset (dset (dset lf 3 (0, (k : Int))) 2 (0, w)) 1 (0, (m : Int))) 0 (4, 0), [], g)) rfl
    dsimp only at h
    rcases zif_ne h with ⟨hc2, h⟩ | ⟨hc2, h⟩
    · have h := zm zy_349 h 2 (q := (60, dset (dset (dset (dset lf 3 (0, (k : Int))) 2 (0, w)) 1 (0, (m : Int))) 0 (4, 0), [(0, w), (4, 0)], g)) rfl
      dsimp only at h
      obtain ⟨gz3, rz4, hk, h⟩ := zcallI zy_349 h rfl rfl zy_64 zk_64
      dsimp only at hk h
      have hO5 := h
      have h := hk
      clear hk
      have h := zm zy_64 h 4 (q := (6, darg 0 [(4, 0), (0, w)], [(0, w)], cup g 0 0 0)) rfl
      dsimp only at h
      have h := zret zy_64 h rfl rfl
      obtain ⟨e1, e2⟩ := oI h
      have h := hO5
      rw [e1, e2] at h
      clear e1 e2
      clear hO5
      refine Or.inl (⟨hc2, ?_⟩)
      exact zret zy_349 h rfl rfl
    · have h := zm zy_349 h 2 (q := (52, dset (dset (dset (dset lf 3 (0, (k : Int))) 2 (0, w)) 1 (0, (m : Int))) 0 (4, 0), [(0, 6), (4, 0)], g)) rfl
      dsimp only at h
      obtain ⟨gz6, rz7, hk, h⟩ := zcallI zy_349 h rfl rfl zy_29 zk_29
      dsimp only at hk h
      have hO8 := h
      have h := hk
      clear hk
      have h := zm zy_29 h 4 (q := (6, darg 0 [(4, 0), (0, 6)], [(0, (-1))], cup g 0 0 6)) rfl
      dsimp only at h
      have h := zret zy_29 h rfl rfl
      obtain ⟨e1, e2⟩ := oI h
      have h := hO8
      rw [e1, e2] at h
      clear e1 e2
      clear hO8
      have h := zm zy_349 h 1 (q := (63, dset (dset (dset (dset lf 3 (0, (k : Int))) 2 (0, w)) 1 (0, (m : Int))) 0 (4, 0), [(0, (-1))], cup g 0 0 6)) rfl
      dsimp only at h
      refine Or.inr (⟨hc2, ?_⟩)
      exact zret zy_349 h rfl rfl
  · exact absurd hc1 (by omega)
theorem m_dbd0 {sv : Nat → Int32} {L n : Nat} {lf : dlf} {g : cg} {o : cg × Option cv} (h : zr sv L n 350 0 lf [] g o) (hl0 : lf 0 = (4, 253)) : ∃ lf', lf' 0 = (4, 253) ∧ lf' 1 = (0, (-1)) ∧ lf' 2 = (0, 0) ∧ zr sv L n 350 4 lf' [] g o := by
  rw [zov hl0] at h
  have h := zm zy_350 h 4 (q := (4, dset (dset (dset lf 0 (4, 253)) 1 (0, (-1))) 2 (0, 0), [], g)) rfl
  dsimp only at h
  exact ⟨_, rfl, rfl, rfl, h⟩
theorem m_dbd_s {sv : Nat → Int32} {L n : Nat} {lf : dlf} {g : cg} {o : cg × Option cv} {k N : Nat} {w : Int} (rk : k ≤ 5) (rN : N ≤ 6) (hQ : g 254 1 = (N : Int)) (hlt : k < N) (h : zr sv L (n + 1) 350 4 lf [] g o) (hl0 : lf 0 = (4, 253)) (hl1 : lf 1 = (0, w)) (hl2 : lf 2 = (0, (k : Int))) : ∃ g_1 r_1, zr sv L n 222 0 (darg 0 [(4, 253), (0, (k : Int))]) [] g (g_1, some (0, r_1)) ∧ (((w ≠ (-1)) ∧ (∃ g_2 r_2, zr sv L n 222 0 (darg 0 [(4, 253), (0, w)]) [] g_1 (g_2, some (0, r_2)) ∧ (((r_1 ≤ r_2) ∧ (∃ lf', lf' 0 = (4, 253) ∧ lf' 1 = (0, w) ∧ lf' 2 = (0, 1 + (k : Int)) ∧ zr sv L n 350 4 lf' [] g_2 o)) ∨ ((r_2 < r_1) ∧ (∃ lf', lf' 0 = (4, 253) ∧ lf' 1 = (0, (k : Int)) ∧ lf' 2 = (0, 1 + (k : Int)) ∧ zr sv L n 350 4 lf' [] g_2 o))))) ∨ ((w = (-1) ∧ r_1 ≤ 0) ∧ (∃ lf', lf' 0 = (4, 253) ∧ lf' 1 = (0, w) ∧ lf' 2 = (0, 1 + (k : Int)) ∧ zr sv L n 350 4 lf' [] g_1 o)) ∨ ((w = (-1) ∧ 0 < r_1) ∧ (∃ lf', lf' 0 = (4, 253) ∧ lf' 1 = (0, (k : Int)) ∧ lf' 2 = (0, 1 + (k : Int)) ∧ zr sv L n 350 4 lf' [] g_1 o))) := by
  rw [zov hl0, zov hl1, zov hl2] at h
  have h := zm1 zy_350 h 5 (q := (cond (crel .ge ((k : Int)) (g 254 1)) 44 14, dset (dset (dset lf 2 (0, (k : Int))) 1 (0, w)) 0 (4, 253), [], g)) rfl
  dsimp only at h
  try rw [hQ] at h
  rcases zif_ge h with ⟨hc1, h⟩ | ⟨hc1, h⟩
  · exact absurd hc1 (by omega)
  · have h := zm zy_350 h 2 (q := (16, dset (dset (dset lf 2 (0, (k : Int))) 1 (0, w)) 0 (4, 253), [(0, (k : Int)), (4, 253)], g)) rfl
    dsimp only at h
    obtain ⟨g_1, r_1, hk, h⟩ := zcallI zy_350 h rfl rfl zy_222 zk_222
    dsimp only at hk h
    refine ⟨g_1, r_1, hk, ?_⟩
    have h := zm zy_350 h 3 (q := (cond (crel .ne w ((-1))) 28 24, dset (dset (dset lf 2 (0, (k : Int))) 1 (0, w)) 0 (4, 253), [(0, r_1)], g_1)) rfl
    dsimp only at h
    rcases zif_ne h with ⟨hc2, h⟩ | ⟨hc2, h⟩
    · have h := zm zy_350 h 2 (q := (30, dset (dset (dset lf 2 (0, (k : Int))) 1 (0, w)) 0 (4, 253), [(0, w), (4, 253), (0, r_1)], g_1)) rfl
      dsimp only at h
      obtain ⟨g_2, r_2, hk, h⟩ := zcallI zy_350 h rfl rfl zy_222 zk_222
      dsimp only at hk h
      refine Or.inl (⟨hc2, ?_⟩)
      refine ⟨g_2, r_2, hk, ?_⟩
      have h := zm zy_350 h 1 (q := (cond (crel .le r_1 r_2) 38 36, dset (dset (dset lf 2 (0, (k : Int))) 1 (0, w)) 0 (4, 253), [], g_2)) rfl
      dsimp only at h
      rcases zif_le h with ⟨hc3, h⟩ | ⟨hc3, h⟩
      · have h := zm zy_350 h 2 (q := (4, dset (dset (dset (dset lf 2 (0, (k : Int))) 1 (0, w)) 0 (4, 253)) 2 (0, w32 (((k : Int)) + 1)), [], g_2)) rfl
        dsimp only at h
        try rw [w32_eq (z := ((k : Int)) + 1) (v := 1 + (k : Int)) (by omega) (by omega) (by omega)] at h
        refine Or.inl (⟨hc3, ?_⟩)
        exact ⟨_, rfl, rfl, rfl, h⟩
      · have h := zm zy_350 h 4 (q := (4, dset (dset (dset (dset (dset lf 2 (0, (k : Int))) 1 (0, w)) 0 (4, 253)) 1 (0, (k : Int))) 2 (0, w32 (((k : Int)) + 1)), [], g_2)) rfl
        dsimp only at h
        try rw [w32_eq (z := ((k : Int)) + 1) (v := 1 + (k : Int)) (by omega) (by omega) (by omega)] at h
        refine Or.inr (⟨hc3, ?_⟩)
        exact ⟨_, rfl, rfl, rfl, h⟩
    · have h := zm zy_350 h 3 (q := (cond (crel .le r_1 0) 38 36, dset (dset (dset lf 2 (0, (k : Int))) 1 (0, w)) 0 (4, 253), [], g_1)) rfl
      dsimp only at h
      rcases zif_le h with ⟨hc6, h⟩ | ⟨hc6, h⟩
      · have h := zm zy_350 h 2 (q := (4, dset (dset (dset (dset lf 2 (0, (k : Int))) 1 (0, w)) 0 (4, 253)) 2 (0, w32 (((k : Int)) + 1)), [], g_1)) rfl
        dsimp only at h
        try rw [w32_eq (z := ((k : Int)) + 1) (v := 1 + (k : Int)) (by omega) (by omega) (by omega)] at h
        refine Or.inr (Or.inl (⟨⟨hc2, hc6⟩, ?_⟩))
        exact ⟨_, rfl, rfl, rfl, h⟩
      · have h := zm zy_350 h 4 (q := (4, dset (dset (dset (dset (dset lf 2 (0, (k : Int))) 1 (0, w)) 0 (4, 253)) 1 (0, (k : Int))) 2 (0, w32 (((k : Int)) + 1)), [], g_1)) rfl
        dsimp only at h
        try rw [w32_eq (z := ((k : Int)) + 1) (v := 1 + (k : Int)) (by omega) (by omega) (by omega)] at h
        refine Or.inr (Or.inr (⟨⟨hc2, hc6⟩, ?_⟩))
        exact ⟨_, rfl, rfl, rfl, h⟩
theorem m_dbd_e {sv : Nat → Int32} {L n : Nat} {lf : dlf} {g : cg} {o : cg × Option cv} {k N : Nat} {w : Int} (rk : k ≤ 6) (rN : N ≤ 6) (hQ : g 254 1 = (N : Int)) (hge : N ≤ k) (h : zr sv L (n + 1) 350 4 lf [] g o) (hl0 : lf 0 = (4, 253)) (hl1 : lf 1 = (0, w)) (hl2 : lf 2 = (0, (k : Int))) : ((w ≠ (-1)) ∧ (o = (cup g 253 2 0, some (0, w)))) ∨ ((w = (-1)) ∧ (o = (cup g 253 2 6, some (0, (-1))))) := by
  rw [zov hl0, zov hl1, zov hl2] at h
  have h := zm1 zy_350 h 5 (q := (cond (crel .ge ((k : Int)) (g 254 1)) 44 14, dset (dset (dset lf 2 (0, (k : Int))) 1 (0, w)) 0 (4, 253), [], g)) rfl
  dsimp only at h
  try rw [hQ] at h
  rcases zif_ge h with ⟨hc1, h⟩ | ⟨hc1, h⟩
  · have h := zm zy_350 h 2 (q := (46, dset (dset (dset lf 2 (0, (k : Int))) 1 (0, w)) 0 (4, 253), [(0, w), (4, 253)], g)) rfl
    dsimp only at h
    obtain ⟨gz2, rz3, hk, h⟩ := zcallI zy_350 h rfl rfl zy_210 zk_210
    dsimp only at hk h
    have hO4 := h
    have h := hk
    clear hk
    have h := zm zy_210 h 3 (q := (cond (crel .ne w ((-1))) 14 5, darg 0 [(4, 253), (0, w)], [], g)) rfl
    dsimp only at h
    rcases zif_ne h with ⟨hc5, h⟩ | ⟨hc5, h⟩
    · have h := zm zy_210 h 2 (q := (16, darg 0 [(4, 253), (0, w)], [(0, w), (4, 253)], g)) rfl
      dsimp only at h
      obtain ⟨gz6, rz7, hk, h⟩ := zcallI zy_210 h rfl rfl zy_192 zk_192
      dsimp only at hk h
      have hO8 := h
      have h := hk
      clear hk
      have h := zm zy_192 h 4 (q := (6, darg 0 [(4, 253), (0, w)], [(0, w)], cup g 253 2 0)) rfl
      dsimp only at h
      have h := zret zy_192 h rfl rfl
      obtain ⟨e1, e2⟩ := oI h
      have h := hO8
      rw [e1, e2] at h
      clear e1 e2
      clear hO8
      have h := zret zy_210 h rfl rfl
      obtain ⟨e1, e2⟩ := oI h
      have h := hO4
      rw [e1, e2] at h
      clear e1 e2
      clear hO4
      refine Or.inl (⟨hc5, ?_⟩)
      exact zret zy_350 h rfl rfl
    · have h := zm zy_210 h 2 (q := (8, darg 0 [(4, 253), (0, w)], [(0, 6), (4, 253)], g)) rfl
      dsimp only at h
      obtain ⟨gz9, rz10, hk, h⟩ := zcallI zy_210 h rfl rfl zy_170 zk_170
      dsimp only at hk h
      have hO11 := h
      have h := hk
      clear hk
      have h := zm zy_170 h 4 (q := (6, darg 0 [(4, 253), (0, 6)], [(0, (-1))], cup g 253 2 6)) rfl
      dsimp only at h
      have h := zret zy_170 h rfl rfl
      obtain ⟨e1, e2⟩ := oI h
      have h := hO11
      rw [e1, e2] at h
      clear e1 e2
      clear hO11
      have h := zm zy_210 h 1 (q := (19, darg 0 [(4, 253), (0, w)], [(0, (-1))], cup g 253 2 6)) rfl
      dsimp only at h
      have h := zret zy_210 h rfl rfl
      obtain ⟨e1, e2⟩ := oI h
      have h := hO4
      rw [e1, e2] at h
      clear e1 e2
      clear hO4
      refine Or.inr (⟨hc5, ?_⟩)
      exact zret zy_350 h rfl rfl
  · exact absurd hc1 (by omega)
theorem t_blv0 {sv : Nat → Int32} {L n : Nat} {lf : dlf} {g : cg} {o : cg × Option cv} {a b : Int} (h : zr sv L n 333 0 lf [] g o) (hl0 : lf 0 = (4, 0)) (hl1 : lf 1 = (0, a)) (hl2 : lf 2 = (0, b)) : (((a < 0) ∨ (0 ≤ a ∧ g 3 3 ≤ a) ∨ (0 ≤ a ∧ a < g 3 3 ∧ b < 0) ∨ (0 ≤ a ∧ a < g 3 3 ∧ 0 ≤ b ∧ 8 ≤ b)) ∧ (o = (cup g 0 0 1, some (0, (-1))))) ∨ ((0 ≤ a ∧ a < g 3 3 ∧ 0 ≤ b ∧ b < 8) ∧ (∃ g_1 r_1, zr sv L n 126 0 (darg 0 [(4, 3), (0, a), (0, b)]) [] g (g_1, some (0, r_1)) ∧ (((r_1 ≠ (-1)) ∧ (o = (cup g_1 0 0 0, some (0, r_1)))) ∨ ((r_1 = (-1)) ∧ (o = (cup g_1 0 0 6, some (0, (-1)))))))) := by
  rw [zov hl0, zov hl1, zov hl2] at h
  have h := zm zy_333 h 3 (q := (3, dset (dset (dset lf 2 (0, b)) 1 (0, a)) 0 (4, 0), [(0, b), (0, a), (4, 0)], g)) rfl
  dsimp only at h
  obtain ⟨gz1, rz2, hk, h⟩ := zcallI zy_333 h rfl rfl zy_110 zk_110
  dsimp only at hk h
  have hO3 := h
  have h := hk
  clear hk
  have h := zm zy_110 h 3 (q := (5, darg 0 [(4, 0), (0, a), (0, b)], [(0, a), (4, 3)], g)) rfl
  dsimp only at h
  obtain ⟨gz4, rz5, hk, h⟩ := zcallI zy_110 h rfl rfl zy_81 zk_81
  dsimp only at hk h
  have hO6 := h
  have h := hk
  clear hk
  have h := zm zy_81 h 2 (q := (cond (crel .lt a 0) 16 4, darg 0 [(4, 3), (0, a)], [], g)) rfl
  dsimp only at h
  rcases zif_lt h with ⟨hc7, h⟩ | ⟨hc7, h⟩
  · have h := zm zy_81 h 1 (q := (17, darg 0 [(4, 3), (0, a)], [(0, 0)], g)) rfl
    dsimp only at h
    have h := zret zy_81 h rfl rfl
    obtain ⟨e1, e2⟩ := oI h
    have h := hO6
    rw [e1, e2] at h
    clear e1 e2
    clear hO6
    have h := zm zy_110 h 2 (q := (23, darg 0 [(4, 0), (0, a), (0, b)], [(0, 0)], g)) rfl
    dsimp only at h
    have h := zret zy_110 h rfl rfl
    obtain ⟨e1, e2⟩ := oI h
    have h := hO3
    rw [e1, e2] at h
    clear e1 e2
    clear hO3
    have h := zm zy_333 h 3 (q := (11, dset (dset (dset lf 2 (0, b)) 1 (0, a)) 0 (4, 0), [(0, 1), (4, 0)], g)) rfl
    dsimp only at h
    obtain ⟨gz8, rz9, hk, h⟩ := zcallI zy_333 h rfl rfl zy_29 zk_29
    dsimp only at hk h
    have hO10 := h
    have h := hk
    clear hk
    have h := zm zy_29 h 4 (q := (6, darg 0 [(4, 0), (0, 1)], [(0, (-1))], cup g 0 0 1)) rfl
    dsimp only at h
    have h := zret zy_29 h rfl rfl
    obtain ⟨e1, e2⟩ := oI h
    have h := hO10
    rw [e1, e2] at h
    clear e1 e2
    clear hO10
    refine Or.inl (⟨Or.inl (hc7), ?_⟩)
    exact zret zy_333 h rfl rfl
  · have h := zm zy_81 h 4 (q := (cond (crel .ge a (g 3 3)) 16 12, darg 0 [(4, 3), (0, a)], [], g)) rfl
    dsimp only at h
    rcases zif_ge h with ⟨hc11, h⟩ | ⟨hc11, h⟩
    · have h := zm zy_81 h 1 (q := (17, darg 0 [(4, 3), (0, a)], [(0, 0)], g)) rfl
      dsimp only at h
      have h := zret zy_81 h rfl rfl
      obtain ⟨e1, e2⟩ := oI h
      have h := hO6
      rw [e1, e2] at h
      clear e1 e2
      clear hO6
      have h := zm zy_110 h 2 (q := (23, darg 0 [(4, 0), (0, a), (0, b)], [(0, 0)], g)) rfl
      dsimp only at h
      have h := zret zy_110 h rfl rfl
      obtain ⟨e1, e2⟩ := oI h
      have h := hO3
      rw [e1, e2] at h
      clear e1 e2
      clear hO3
      have h := zm zy_333 h 3 (q := (11, dset (dset (dset lf 2 (0, b)) 1 (0, a)) 0 (4, 0), [(0, 1), (4, 0)], g)) rfl
      dsimp only at h
      obtain ⟨gz12, rz13, hk, h⟩ := zcallI zy_333 h rfl rfl zy_29 zk_29
      dsimp only at hk h
      have hO14 := h
      have h := hk
      clear hk
      have h := zm zy_29 h 4 (q := (6, darg 0 [(4, 0), (0, 1)], [(0, (-1))], cup g 0 0 1)) rfl
      dsimp only at h
      have h := zret zy_29 h rfl rfl
      obtain ⟨e1, e2⟩ := oI h
      have h := hO14
      rw [e1, e2] at h
      clear e1 e2
      clear hO14
      refine Or.inl (⟨Or.inr (Or.inl (⟨hc7, hc11⟩)), ?_⟩)
      exact zret zy_333 h rfl rfl
    · have h := zm zy_81 h 2 (q := (17, darg 0 [(4, 3), (0, a)], [(0, 1)], g)) rfl
      dsimp only at h
      have h := zret zy_81 h rfl rfl
      obtain ⟨e1, e2⟩ := oI h
      have h := hO6
      rw [e1, e2] at h
      clear e1 e2
      clear hO6
      have h := zm zy_110 h 2 (q := (12, darg 0 [(4, 0), (0, a), (0, b)], [(0, b)], g)) rfl
      dsimp only at h
      obtain ⟨gz15, rz16, hk, h⟩ := zcallI zy_110 h rfl rfl zy_86 zk_86
      dsimp only at hk h
      have hO17 := h
      have h := hk
      clear hk
      have h := zm zy_86 h 2 (q := (cond (crel .lt b 0) 14 4, darg 0 [(0, b)], [], g)) rfl
      dsimp only at h
      rcases zif_lt h with ⟨hc18, h⟩ | ⟨hc18, h⟩
      · have h := zm zy_86 h 1 (q := (15, darg 0 [(0, b)], [(0, 0)], g)) rfl
        dsimp only at h
        have h := zret zy_86 h rfl rfl
        obtain ⟨e1, e2⟩ := oI h
        have h := hO17
        rw [e1, e2] at h
        clear e1 e2
        clear hO17
        have h := zm zy_110 h 2 (q := (23, darg 0 [(4, 0), (0, a), (0, b)], [(0, 0)], g)) rfl
        dsimp only at h
        have h := zret zy_110 h rfl rfl
        obtain ⟨e1, e2⟩ := oI h
        have h := hO3
        rw [e1, e2] at h
        clear e1 e2
        clear hO3
        have h := zm zy_333 h 3 (q := (11, dset (dset (dset lf 2 (0, b)) 1 (0, a)) 0 (4, 0), [(0, 1), (4, 0)], g)) rfl
        dsimp only at h
        obtain ⟨gz19, rz20, hk, h⟩ := zcallI zy_333 h rfl rfl zy_29 zk_29
        dsimp only at hk h
        have hO21 := h
        have h := hk
        clear hk
        have h := zm zy_29 h 4 (q := (6, darg 0 [(4, 0), (0, 1)], [(0, (-1))], cup g 0 0 1)) rfl
        dsimp only at h
        have h := zret zy_29 h rfl rfl
        obtain ⟨e1, e2⟩ := oI h
        have h := hO21
        rw [e1, e2] at h
        clear e1 e2
        clear hO21
        refine Or.inl (⟨Or.inr (Or.inr (Or.inl (⟨hc7, hc11, hc18⟩))), ?_⟩)
        exact zret zy_333 h rfl rfl
      · have h := zm zy_86 h 3 (q := (cond (crel .ge b 8) 14 10, darg 0 [(0, b)], [], g)) rfl
        dsimp only at h
        rcases zif_ge h with ⟨hc22, h⟩ | ⟨hc22, h⟩
        · have h := zm zy_86 h 1 (q := (15, darg 0 [(0, b)], [(0, 0)], g)) rfl
          dsimp only at h
          have h := zret zy_86 h rfl rfl
          obtain ⟨e1, e2⟩ := oI h
          have h := hO17
          rw [e1, e2] at h
          clear e1 e2
          clear hO17
          have h := zm zy_110 h 2 (q := (23, darg 0 [(4, 0), (0, a), (0, b)], [(0, 0)], g)) rfl
          dsimp only at h
          have h := zret zy_110 h rfl rfl
          obtain ⟨e1, e2⟩ := oI h
          have h := hO3
          rw [e1, e2] at h
          clear e1 e2
          clear hO3
          have h := zm zy_333 h 3 (q := (11, dset (dset (dset lf 2 (0, b)) 1 (0, a)) 0 (4, 0), [(0, 1), (4, 0)], g)) rfl
          dsimp only at h
          obtain ⟨gz23, rz24, hk, h⟩ := zcallI zy_333 h rfl rfl zy_29 zk_29
          dsimp only at hk h
          have hO25 := h
          have h := hk
          clear hk
          have h := zm zy_29 h 4 (q := (6, darg 0 [(4, 0), (0, 1)], [(0, (-1))], cup g 0 0 1)) rfl
          dsimp only at h
          have h := zret zy_29 h rfl rfl
          obtain ⟨e1, e2⟩ := oI h
          have h := hO25
          rw [e1, e2] at h
          clear e1 e2
          clear hO25
          refine Or.inl (⟨Or.inr (Or.inr (Or.inr (⟨hc7, hc11, hc18, hc22⟩))), ?_⟩)
          exact zret zy_333 h rfl rfl
        · have h := zm zy_86 h 2 (q := (15, darg 0 [(0, b)], [(0, 1)], g)) rfl
          dsimp only at h
          have h := zret zy_86 h rfl rfl
          obtain ⟨e1, e2⟩ := oI h
          have h := hO17
          rw [e1, e2] at h
          clear e1 e2
          clear hO17
          have h := zm zy_110 h 3 (q := (23, darg 0 [(4, 0), (0, a), (0, b)], [(0, 1)], g)) rfl
          dsimp only at h
          have h := zret zy_110 h rfl rfl
          obtain ⟨e1, e2⟩ := oI h
          have h := hO3
          rw [e1, e2] at h
          clear e1 e2
          clear hO3
          have h := zm zy_333 h 5 (q := (21, dset (dset (dset lf 2 (0, b)) 1 (0, a)) 0 (4, 0), [(0, b), (0, a), (4, 3)], g)) rfl
          dsimp only at h
          obtain ⟨g_1, r_1, hk, h⟩ := zcallI zy_333 h rfl rfl zy_126 zk_126
          dsimp only at hk h
          refine Or.inr (⟨⟨hc7, hc11, hc18, hc22⟩, ?_⟩)
          refine ⟨g_1, r_1, hk, ?_⟩
          have h := zm zy_333 h 4 (q := (cond (crel .ne r_1 ((-1))) 39 30, dset (dset (dset (dset lf 2 (0, b)) 1 (0, a)) 0 (4, 0)) 3 (0, r_1), [], g_1)) rfl
          dsimp only at h
          rcases zif_ne h with ⟨hc26, h⟩ | ⟨hc26, h⟩
          · have h := zm zy_333 h 2 (q := (41, dset (dset (dset (dset lf 2 (0, b)) 1 (0, a)) 0 (4, 0)) 3 (0, r_1), [(0, r_1), (4, 0)], g_1)) rfl
            dsimp only at h
            obtain ⟨gz27, rz28, hk, h⟩ := zcallI zy_333 h rfl rfl zy_64 zk_64
            dsimp only at hk h
            have hO29 := h
            have h := hk
            clear hk
            have h := zm zy_64 h 4 (q := (6, darg 0 [(4, 0), (0, r_1)], [(0, r_1)], cup g_1 0 0 0)) rfl
            dsimp only at h
            have h := zret zy_64 h rfl rfl
            obtain ⟨e1, e2⟩ := oI h
            have h := hO29
            rw [e1, e2] at h
            clear e1 e2
            clear hO29
            refine Or.inl (⟨hc26, ?_⟩)
            exact zret zy_333 h rfl rfl
          · have h := zm zy_333 h 2 (q := (33, dset (dset (dset (dset lf 2 (0, b)) 1 (0, a)) 0 (4, 0)) 3 (0, r_1), [(0, 6), (4, 0)], g_1)) rfl
            dsimp only at h
            obtain ⟨gz30, rz31, hk, h⟩ := zcallI zy_333 h rfl rfl zy_29 zk_29
            dsimp only at hk h
            have hO32 := h
            have h := hk
            clear hk
            have h := zm zy_29 h 4 (q := (6, darg 0 [(4, 0), (0, 6)], [(0, (-1))], cup g_1 0 0 6)) rfl
            dsimp only at h
            have h := zret zy_29 h rfl rfl
            obtain ⟨e1, e2⟩ := oI h
            have h := hO32
            rw [e1, e2] at h
            clear e1 e2
            clear hO32
            have h := zm zy_333 h 1 (q := (44, dset (dset (dset (dset lf 2 (0, b)) 1 (0, a)) 0 (4, 0)) 3 (0, r_1), [(0, (-1))], cup g_1 0 0 6)) rfl
            dsimp only at h
            refine Or.inr (⟨hc26, ?_⟩)
            exact zret zy_333 h rfl rfl
theorem t_mos0 {sv : Nat → Int32} {L n : Nat} {lf : dlf} {g : cg} {o : cg × Option cv} {P T : Nat} (rP : P ≤ 5) (rT : T ≤ 7) (h : zr sv L n 126 0 lf [] g o) (hl0 : lf 0 = (4, 3)) (hl1 : lf 1 = (0, (P : Int))) (hl2 : lf 2 = (0, (T : Int))) : ∃ lf', lf' 0 = (4, 3) ∧ lf' 1 = (0, (P : Int)) ∧ lf' 2 = (0, (T : Int)) ∧ lf' 3 = (0, 0) ∧ lf' 4 = (0, (-1)) ∧ lf' 5 = (0, 0) ∧ zr sv L n 126 8 lf' [] g o := by
  rw [zov hl0, zov hl1, zov hl2] at h
  have h := zm zy_126 h 6 (q := (8, dset (dset (dset (dset (dset (dset lf 2 (0, (T : Int))) 1 (0, (P : Int))) 0 (4, 3)) 3 (0, 0)) 4 (0, (-1))) 5 (0, 0), [], g)) rfl
  dsimp only at h
  exact ⟨_, rfl, rfl, rfl, rfl, rfl, rfl, h⟩
theorem t_mos_s {sv : Nat → Int32} {L n : Nat} {lf : dlf} {g : cg} {o : cg × Option cv} {P T m k N : Nat} {w : Int} (rP : P ≤ 5) (rT : T ≤ 7) (rm : m ≤ 16) (rk : k ≤ 4) (rN : N ≤ 5) (hQ : g 3 0 = (N : Int)) (hlt : k < N) (h : zr sv L (n + 1) 126 8 lf [] g o) (hl0 : lf 0 = (4, 3)) (hl1 : lf 1 = (0, (P : Int))) (hl2 : lf 2 = (0, (T : Int))) (hl3 : lf 3 = (0, (m : Int))) (hl4 : lf 4 = (0, w)) (hl5 : lf 5 = (0, (k : Int))) : ∃ g_1 r_1, zr sv L n 98 0 (darg 0 [(4, 3), (0, (P : Int)), (0, (k : Int)), (0, (T : Int))]) [] g (g_1, some (0, r_1)) ∧ (((r_1 ≤ (m : Int)) ∧ (∃ lf', lf' 0 = (4, 3) ∧ lf' 1 = (0, (P : Int)) ∧ lf' 2 = (0, (T : Int)) ∧ lf' 3 = (0, (m : Int)) ∧ lf' 4 = (0, w) ∧ lf' 5 = (0, 1 + (k : Int)) ∧ zr sv L n 126 8 lf' [] g_1 o)) ∨ (((m : Int) < r_1) ∧ (∃ lf', lf' 0 = (4, 3) ∧ lf' 1 = (0, (P : Int)) ∧ lf' 2 = (0, (T : Int)) ∧ lf' 3 = (0, r_1) ∧ lf' 4 = (0, (k : Int)) ∧ lf' 5 = (0, 1 + (k : Int)) ∧ zr sv L n 126 8 lf' [] g_1 o))) := by
  rw [zov hl0, zov hl1, zov hl2, zov hl3, zov hl4, zov hl5] at h
  have h := zm1 zy_126 h 3 (q := (cond (crel .ge ((k : Int)) (g 3 0)) 46 17, dset (dset (dset (dset (dset (dset lf 5 (0, (k : Int))) 4 (0, w)) 3 (0, (m : Int))) 2 (0, (T : Int))) 1 (0, (P : Int))) 0 (4, 3), [], g)) rfl
  dsimp only at h
  try rw [hQ] at h
  rcases zif_ge h with ⟨hc1, h⟩ | ⟨hc1, h⟩
  · exact absurd hc1 (by omega)
  · have h := zm zy_126 h 4 (q := (22, dset (dset (dset (dset (dset (dset lf 5 (0, (k : Int))) 4 (0, w)) 3 (0, (m : Int))) 2 (0, (T : Int))) 1 (0, (P : Int))) 0 (4, 3), [(0, (T : Int)), (0, (k : Int)), (0, (P : Int)), (4, 3)], g)) rfl
    dsimp only at h
    obtain ⟨g_1, r_1, hk, h⟩ := zcallI zy_126 h rfl rfl zy_98 zk_98
    dsimp only at hk h
    refine ⟨g_1, r_1, hk, ?_⟩
    have h := zm zy_126 h 4 (q := (cond (crel .le r_1 ((m : Int))) 40 33, dset (dset (dset (dset (dset (dset (dset lf 5 (0, (k : Int))) 4 (0, w)) 3 (0, (m : Int))) 2 (0, (T : Int))) 1 (0, (P : Int))) 0 (4, 3)) 6 (0, r_1), [], g_1)) rfl
    dsimp only at h
    rcases zif_le h with ⟨hc2, h⟩ | ⟨hc2, h⟩
    · have h := zm zy_126 h 2 (q := (8, dset (dset (dset (dset (dset (dset (dset (dset lf 5 (0, (k : Int))) 4 (0, w)) 3 (0, (m : Int))) 2 (0, (T : Int))) 1 (0, (P : Int))) 0 (4, 3)) 6 (0, r_1)) 5 (0, w32 (((k : Int)) + 1)), [], g_1)) rfl
      dsimp only at h
      try rw [w32_eq (z := ((k : Int)) + 1) (v := 1 + (k : Int)) (by omega) (by omega) (by omega)] at h
      refine Or.inl (⟨hc2, ?_⟩)
      exact ⟨_, rfl, rfl, rfl, rfl, rfl, rfl, h⟩
    · have h := zm zy_126 h 6 (q := (8, dset (dset (dset (dset (dset (dset (dset (dset (dset (dset lf 5 (0, (k : Int))) 4 (0, w)) 3 (0, (m : Int))) 2 (0, (T : Int))) 1 (0, (P : Int))) 0 (4, 3)) 6 (0, r_1)) 3 (0, r_1)) 4 (0, (k : Int))) 5 (0, w32 (((k : Int)) + 1)), [], g_1)) rfl
      dsimp only at h
      try rw [w32_eq (z := ((k : Int)) + 1) (v := 1 + (k : Int)) (by omega) (by omega) (by omega)] at h
      refine Or.inr (⟨hc2, ?_⟩)
      exact ⟨_, rfl, rfl, rfl, rfl, rfl, rfl, h⟩
theorem t_mos_e {sv : Nat → Int32} {L n : Nat} {lf : dlf} {g : cg} {o : cg × Option cv} {P T m k N : Nat} {w : Int} (rP : P ≤ 5) (rT : T ≤ 7) (rm : m ≤ 16) (rk : k ≤ 5) (rN : N ≤ 5) (hQ : g 3 0 = (N : Int)) (hge : N ≤ k) (h : zr sv L (n + 1) 126 8 lf [] g o) (hl0 : lf 0 = (4, 3)) (hl1 : lf 1 = (0, (P : Int))) (hl2 : lf 2 = (0, (T : Int))) (hl3 : lf 3 = (0, (m : Int))) (hl4 : lf 4 = (0, w)) (hl5 : lf 5 = (0, (k : Int))) : o = (g, some (0, w)) := by
  rw [zov hl0, zov hl1, zov hl2, zov hl3, zov hl4, zov hl5] at h
  have h := zm1 zy_126 h 3 (q := (cond (crel .ge ((k : Int)) (g 3 0)) 46 17, dset (dset (dset (dset (dset (dset lf 5 (0, (k : Int))) 4 (0, w)) 3 (0, (m : Int))) 2 (0, (T : Int))) 1 (0, (P : Int))) 0 (4, 3), [], g)) rfl
  dsimp only at h
  try rw [hQ] at h
  rcases zif_ge h with ⟨hc1, h⟩ | ⟨hc1, h⟩
  · have h := zm zy_126 h 1 (q := (48, dset (dset (dset (dset (dset (dset lf 5 (0, (k : Int))) 4 (0, w)) 3 (0, (m : Int))) 2 (0, (T : Int))) 1 (0, (P : Int))) 0 (4, 3), [(0, w)], g)) rfl
    dsimp only at h
    exact zret zy_126 h rfl rfl
  · exact absurd hc1 (by omega)
theorem m_blv0 {sv : Nat → Int32} {L n : Nat} {lf : dlf} {g : cg} {o : cg × Option cv} {a b : Int} (h : zr sv L n 334 0 lf [] g o) (hl0 : lf 0 = (4, 253)) (hl1 : lf 1 = (0, a)) (hl2 : lf 2 = (0, b)) : (((a < 0) ∨ (0 ≤ a ∧ g 254 1 ≤ a) ∨ (0 ≤ a ∧ a < g 254 1 ∧ b < 0) ∨ (0 ≤ a ∧ a < g 254 1 ∧ 0 ≤ b ∧ 8 ≤ b)) ∧ (o = (cup g 253 2 1, some (0, (-1))))) ∨ ((0 ≤ a ∧ a < g 254 1 ∧ 0 ≤ b ∧ b < 8) ∧ (∃ lf', lf' 0 = (4, 253) ∧ lf' 1 = (0, a) ∧ lf' 2 = (0, b) ∧ zr sv L n 334 21 lf' [] g o)) := by
  rw [zov hl0, zov hl1, zov hl2] at h
  have h := zm zy_334 h 2 (q := (2, dset (dset (dset lf 2 (0, b)) 1 (0, a)) 0 (4, 253), [(0, a), (4, 253)], g)) rfl
  dsimp only at h
  obtain ⟨gz1, rz2, hk, h⟩ := zcallI zy_334 h rfl rfl zy_208 zk_208
  dsimp only at hk h
  have hO3 := h
  have h := hk
  clear hk
  have h := zm zy_208 h 2 (q := (cond (crel .lt a 0) 18 4, darg 0 [(4, 253), (0, a)], [], g)) rfl
  dsimp only at h
  rcases zif_lt h with ⟨hc4, h⟩ | ⟨hc4, h⟩
  · have h := zm zy_208 h 1 (q := (19, darg 0 [(4, 253), (0, a)], [(0, 0)], g)) rfl
    dsimp only at h
    have h := zret zy_208 h rfl rfl
    obtain ⟨e1, e2⟩ := oI h
    have h := hO3
    rw [e1, e2] at h
    clear e1 e2
    clear hO3
    have h := zm zy_334 h 3 (q := (17, dset (dset (dset lf 2 (0, b)) 1 (0, a)) 0 (4, 253), [(0, 1), (4, 253)], g)) rfl
    dsimp only at h
    obtain ⟨gz5, rz6, hk, h⟩ := zcallI zy_334 h rfl rfl zy_170 zk_170
    dsimp only at hk h
    have hO7 := h
    have h := hk
    clear hk
    have h := zm zy_170 h 4 (q := (6, darg 0 [(4, 253), (0, 1)], [(0, (-1))], cup g 253 2 1)) rfl
    dsimp only at h
    have h := zret zy_170 h rfl rfl
    obtain ⟨e1, e2⟩ := oI h
    have h := hO7
    rw [e1, e2] at h
    clear e1 e2
    clear hO7
    refine Or.inl (⟨Or.inl (hc4), ?_⟩)
    exact zret zy_334 h rfl rfl
  · have h := zm zy_208 h 6 (q := (cond (crel .ge a (g 254 1)) 18 14, darg 0 [(4, 253), (0, a)], [], g)) rfl
    dsimp only at h
    rcases zif_ge h with ⟨hc8, h⟩ | ⟨hc8, h⟩
    · have h := zm zy_208 h 1 (q := (19, darg 0 [(4, 253), (0, a)], [(0, 0)], g)) rfl
      dsimp only at h
      have h := zret zy_208 h rfl rfl
      obtain ⟨e1, e2⟩ := oI h
      have h := hO3
      rw [e1, e2] at h
      clear e1 e2
      clear hO3
      have h := zm zy_334 h 3 (q := (17, dset (dset (dset lf 2 (0, b)) 1 (0, a)) 0 (4, 253), [(0, 1), (4, 253)], g)) rfl
      dsimp only at h
      obtain ⟨gz9, rz10, hk, h⟩ := zcallI zy_334 h rfl rfl zy_170 zk_170
      dsimp only at hk h
      have hO11 := h
      have h := hk
      clear hk
      have h := zm zy_170 h 4 (q := (6, darg 0 [(4, 253), (0, 1)], [(0, (-1))], cup g 253 2 1)) rfl
      dsimp only at h
      have h := zret zy_170 h rfl rfl
      obtain ⟨e1, e2⟩ := oI h
      have h := hO11
      rw [e1, e2] at h
      clear e1 e2
      clear hO11
      refine Or.inl (⟨Or.inr (Or.inl (⟨hc4, hc8⟩)), ?_⟩)
      exact zret zy_334 h rfl rfl
    · have h := zm zy_208 h 2 (q := (19, darg 0 [(4, 253), (0, a)], [(0, 1)], g)) rfl
      dsimp only at h
      have h := zret zy_208 h rfl rfl
      obtain ⟨e1, e2⟩ := oI h
      have h := hO3
      rw [e1, e2] at h
      clear e1 e2
      clear hO3
      have h := zm zy_334 h 2 (q := (9, dset (dset (dset lf 2 (0, b)) 1 (0, a)) 0 (4, 253), [(0, b)], g)) rfl
      dsimp only at h
      obtain ⟨gz12, rz13, hk, h⟩ := zcallI zy_334 h rfl rfl zy_216 zk_216
      dsimp only at hk h
      have hO14 := h
      have h := hk
      clear hk
      have h := zm zy_216 h 2 (q := (cond (crel .lt b 0) 14 4, darg 0 [(0, b)], [], g)) rfl
      dsimp only at h
      rcases zif_lt h with ⟨hc15, h⟩ | ⟨hc15, h⟩
      · have h := zm zy_216 h 1 (q := (15, darg 0 [(0, b)], [(0, 0)], g)) rfl
        dsimp only at h
        have h := zret zy_216 h rfl rfl
        obtain ⟨e1, e2⟩ := oI h
        have h := hO14
        rw [e1, e2] at h
        clear e1 e2
        clear hO14
        have h := zm zy_334 h 3 (q := (17, dset (dset (dset lf 2 (0, b)) 1 (0, a)) 0 (4, 253), [(0, 1), (4, 253)], g)) rfl
        dsimp only at h
        obtain ⟨gz16, rz17, hk, h⟩ := zcallI zy_334 h rfl rfl zy_170 zk_170
        dsimp only at hk h
        have hO18 := h
        have h := hk
        clear hk
        have h := zm zy_170 h 4 (q := (6, darg 0 [(4, 253), (0, 1)], [(0, (-1))], cup g 253 2 1)) rfl
        dsimp only at h
        have h := zret zy_170 h rfl rfl
        obtain ⟨e1, e2⟩ := oI h
        have h := hO18
        rw [e1, e2] at h
        clear e1 e2
        clear hO18
        refine Or.inl (⟨Or.inr (Or.inr (Or.inl (⟨hc4, hc8, hc15⟩))), ?_⟩)
        exact zret zy_334 h rfl rfl
      · have h := zm zy_216 h 3 (q := (cond (crel .ge b 8) 14 10, darg 0 [(0, b)], [], g)) rfl
        dsimp only at h
        rcases zif_ge h with ⟨hc19, h⟩ | ⟨hc19, h⟩
        · have h := zm zy_216 h 1 (q := (15, darg 0 [(0, b)], [(0, 0)], g)) rfl
          dsimp only at h
          have h := zret zy_216 h rfl rfl
          obtain ⟨e1, e2⟩ := oI h
          have h := hO14
          rw [e1, e2] at h
          clear e1 e2
          clear hO14
          have h := zm zy_334 h 3 (q := (17, dset (dset (dset lf 2 (0, b)) 1 (0, a)) 0 (4, 253), [(0, 1), (4, 253)], g)) rfl
          dsimp only at h
          obtain ⟨gz20, rz21, hk, h⟩ := zcallI zy_334 h rfl rfl zy_170 zk_170
          dsimp only at hk h
          have hO22 := h
          have h := hk
          clear hk
          have h := zm zy_170 h 4 (q := (6, darg 0 [(4, 253), (0, 1)], [(0, (-1))], cup g 253 2 1)) rfl
          dsimp only at h
          have h := zret zy_170 h rfl rfl
          obtain ⟨e1, e2⟩ := oI h
          have h := hO22
          rw [e1, e2] at h
          clear e1 e2
          clear hO22
          refine Or.inl (⟨Or.inr (Or.inr (Or.inr (⟨hc4, hc8, hc15, hc19⟩))), ?_⟩)
          exact zret zy_334 h rfl rfl
        · have h := zm zy_216 h 2 (q := (15, darg 0 [(0, b)], [(0, 1)], g)) rfl
          dsimp only at h
          have h := zret zy_216 h rfl rfl
          obtain ⟨e1, e2⟩ := oI h
          have h := hO14
          rw [e1, e2] at h
          clear e1 e2
          clear hO14
          have h := zm zy_334 h 1 (q := (21, dset (dset (dset lf 2 (0, b)) 1 (0, a)) 0 (4, 253), [], g)) rfl
          dsimp only at h
          refine Or.inr (⟨⟨hc4, hc8, hc15, hc19⟩, ?_⟩)
          exact ⟨_, rfl, rfl, rfl, h⟩
theorem m_blv21 {sv : Nat → Int32} {L n : Nat} {lf : dlf} {g : cg} {o : cg × Option cv} {P T : Nat} (rP : P ≤ 5) (rT : T ≤ 7) (h : zr sv L n 334 21 lf [] g o) (hl0 : lf 0 = (4, 253)) (hl1 : lf 1 = (0, (P : Int))) (hl2 : lf 2 = (0, (T : Int))) : ∃ lf', lf' 0 = (4, 253) ∧ lf' 1 = (0, (P : Int)) ∧ lf' 2 = (0, (T : Int)) ∧ lf' 3 = (0, (-1)) ∧ lf' 4 = (0, 0) ∧ lf' 5 = (0, 0) ∧ zr sv L n 334 29 lf' [] g o := by
  rw [zov hl0, zov hl1, zov hl2] at h
  have h := zm zy_334 h 6 (q := (29, dset (dset (dset (dset (dset (dset lf 2 (0, (T : Int))) 1 (0, (P : Int))) 0 (4, 253)) 3 (0, (-1))) 4 (0, 0)) 5 (0, 0), [], g)) rfl
  dsimp only at h
  exact ⟨_, rfl, rfl, rfl, rfl, rfl, rfl, h⟩
theorem m_blv_s {sv : Nat → Int32} {L n : Nat} {lf : dlf} {g : cg} {o : cg × Option cv} {P T m k N : Nat} {w : Int} (rP : P ≤ 5) (rT : T ≤ 7) (rm : m ≤ 16) (rk : k ≤ 4) (rN : N ≤ 5) (hQ : g 254 0 = (N : Int)) (hlt : k < N) (h : zr sv L (n + 1) 334 29 lf [] g o) (hl0 : lf 0 = (4, 253)) (hl1 : lf 1 = (0, (P : Int))) (hl2 : lf 2 = (0, (T : Int))) (hl3 : lf 3 = (0, w)) (hl4 : lf 4 = (0, (m : Int))) (hl5 : lf 5 = (0, (k : Int))) : ∃ g_1 r_1, zr sv L n 226 0 (darg 0 [(4, 253), (0, (P : Int)), (0, (k : Int)), (0, (T : Int)), (0, (-1))]) [] g (g_1, some (0, r_1)) ∧ ((((m : Int) < r_1) ∧ (∃ lf', lf' 0 = (4, 253) ∧ lf' 1 = (0, (P : Int)) ∧ lf' 2 = (0, (T : Int)) ∧ lf' 3 = (0, (k : Int)) ∧ lf' 4 = (0, r_1) ∧ lf' 5 = (0, 1 + (k : Int)) ∧ zr sv L n 334 29 lf' [] g_1 o)) ∨ ((r_1 ≤ (m : Int)) ∧ (∃ lf', lf' 0 = (4, 253) ∧ lf' 1 = (0, (P : Int)) ∧ lf' 2 = (0, (T : Int)) ∧ lf' 3 = (0, w) ∧ lf' 4 = (0, (m : Int)) ∧ lf' 5 = (0, 1 + (k : Int)) ∧ zr sv L n 334 29 lf' [] g_1 o))) := by
  rw [zov hl0, zov hl1, zov hl2, zov hl3, zov hl4, zov hl5] at h
  have h := zm1 zy_334 h 5 (q := (cond (crel .ge ((k : Int)) (g 254 0)) 74 40, dset (dset (dset (dset (dset (dset lf 5 (0, (k : Int))) 4 (0, (m : Int))) 3 (0, w)) 2 (0, (T : Int))) 1 (0, (P : Int))) 0 (4, 253), [], g)) rfl
  dsimp only at h
  try rw [hQ] at h
  rcases zif_ge h with ⟨hc1, h⟩ | ⟨hc1, h⟩
  · exact absurd hc1 (by omega)
  · have h := zm zy_334 h 5 (q := (46, dset (dset (dset (dset (dset (dset lf 5 (0, (k : Int))) 4 (0, (m : Int))) 3 (0, w)) 2 (0, (T : Int))) 1 (0, (P : Int))) 0 (4, 253), [(0, (-1)), (0, (T : Int)), (0, (k : Int)), (0, (P : Int)), (4, 253)], g)) rfl
    dsimp only at h
    obtain ⟨g_1, r_1, hk, h⟩ := zcallI zy_334 h rfl rfl zy_226 zk_226
    dsimp only at hk h
    refine ⟨g_1, r_1, hk, ?_⟩
    have h := zm zy_334 h 4 (q := (cond (crel .gt r_1 ((m : Int))) 61 58, dset (dset (dset (dset (dset (dset (dset lf 5 (0, (k : Int))) 4 (0, (m : Int))) 3 (0, w)) 2 (0, (T : Int))) 1 (0, (P : Int))) 0 (4, 253)) 6 (0, r_1), [], g_1)) rfl
    dsimp only at h
    rcases zif_gt h with ⟨hc2, h⟩ | ⟨hc2, h⟩
    · have h := zm zy_334 h 6 (q := (29, dset (dset (dset (dset (dset (dset (dset (dset (dset (dset lf 5 (0, (k : Int))) 4 (0, (m : Int))) 3 (0, w)) 2 (0, (T : Int))) 1 (0, (P : Int))) 0 (4, 253)) 6 (0, r_1)) 4 (0, r_1)) 3 (0, (k : Int))) 5 (0, w32 (((k : Int)) + 1)), [], g_1)) rfl
      dsimp only at h
      try rw [w32_eq (z := ((k : Int)) + 1) (v := 1 + (k : Int)) (by omega) (by omega) (by omega)] at h
      refine Or.inl (⟨hc2, ?_⟩)
      exact ⟨_, rfl, rfl, rfl, rfl, rfl, rfl, h⟩
    · have h := zm zy_334 h 3 (q := (29, dset (dset (dset (dset (dset (dset (dset (dset lf 5 (0, (k : Int))) 4 (0, (m : Int))) 3 (0, w)) 2 (0, (T : Int))) 1 (0, (P : Int))) 0 (4, 253)) 6 (0, r_1)) 5 (0, w32 (((k : Int)) + 1)), [], g_1)) rfl
      dsimp only at h
      try rw [w32_eq (z := ((k : Int)) + 1) (v := 1 + (k : Int)) (by omega) (by omega) (by omega)] at h
      refine Or.inr (⟨hc2, ?_⟩)
      exact ⟨_, rfl, rfl, rfl, rfl, rfl, rfl, h⟩
theorem m_blv_e {sv : Nat → Int32} {L n : Nat} {lf : dlf} {g : cg} {o : cg × Option cv} {P T m k N : Nat} {w : Int} (rP : P ≤ 5) (rT : T ≤ 7) (rm : m ≤ 16) (rk : k ≤ 5) (rN : N ≤ 5) (hQ : g 254 0 = (N : Int)) (hge : N ≤ k) (h : zr sv L (n + 1) 334 29 lf [] g o) (hl0 : lf 0 = (4, 253)) (hl1 : lf 1 = (0, (P : Int))) (hl2 : lf 2 = (0, (T : Int))) (hl3 : lf 3 = (0, w)) (hl4 : lf 4 = (0, (m : Int))) (hl5 : lf 5 = (0, (k : Int))) : ((w ≠ (-1)) ∧ (o = (cup g 253 2 0, some (0, w)))) ∨ ((w = (-1)) ∧ (o = (cup g 253 2 6, some (0, (-1))))) := by
  rw [zov hl0, zov hl1, zov hl2, zov hl3, zov hl4, zov hl5] at h
  have h := zm1 zy_334 h 5 (q := (cond (crel .ge ((k : Int)) (g 254 0)) 74 40, dset (dset (dset (dset (dset (dset lf 5 (0, (k : Int))) 4 (0, (m : Int))) 3 (0, w)) 2 (0, (T : Int))) 1 (0, (P : Int))) 0 (4, 253), [], g)) rfl
  dsimp only at h
  try rw [hQ] at h
  rcases zif_ge h with ⟨hc1, h⟩ | ⟨hc1, h⟩
  · have h := zm zy_334 h 2 (q := (76, dset (dset (dset (dset (dset (dset lf 5 (0, (k : Int))) 4 (0, (m : Int))) 3 (0, w)) 2 (0, (T : Int))) 1 (0, (P : Int))) 0 (4, 253), [(0, w), (4, 253)], g)) rfl
    dsimp only at h
    obtain ⟨gz2, rz3, hk, h⟩ := zcallI zy_334 h rfl rfl zy_210 zk_210
    dsimp only at hk h
    have hO4 := h
    have h := hk
    clear hk
    have h := zm zy_210 h 3 (q := (cond (crel .ne w ((-1))) 14 5, darg 0 [(4, 253), (0, w)], [], g)) rfl
    dsimp only at h
    rcases zif_ne h with ⟨hc5, h⟩ | ⟨hc5, h⟩
    · have h := zm zy_210 h 2 (q := (16, darg 0 [(4, 253), (0, w)], [(0, w), (4, 253)], g)) rfl
      dsimp only at h
      obtain ⟨gz6, rz7, hk, h⟩ := zcallI zy_210 h rfl rfl zy_192 zk_192
      dsimp only at hk h
      have hO8 := h
      have h := hk
      clear hk
      have h := zm zy_192 h 4 (q := (6, darg 0 [(4, 253), (0, w)], [(0, w)], cup g 253 2 0)) rfl
      dsimp only at h
      have h := zret zy_192 h rfl rfl
      obtain ⟨e1, e2⟩ := oI h
      have h := hO8
      rw [e1, e2] at h
      clear e1 e2
      clear hO8
      have h := zret zy_210 h rfl rfl
      obtain ⟨e1, e2⟩ := oI h
      have h := hO4
      rw [e1, e2] at h
      clear e1 e2
      clear hO4
      refine Or.inl (⟨hc5, ?_⟩)
      exact zret zy_334 h rfl rfl
    · have h := zm zy_210 h 2 (q := (8, darg 0 [(4, 253), (0, w)], [(0, 6), (4, 253)], g)) rfl
      dsimp only at h
      obtain ⟨gz9, rz10, hk, h⟩ := zcallI zy_210 h rfl rfl zy_170 zk_170
      dsimp only at hk h
      have hO11 := h
      have h := hk
      clear hk
      have h := zm zy_170 h 4 (q := (6, darg 0 [(4, 253), (0, 6)], [(0, (-1))], cup g 253 2 6)) rfl
      dsimp only at h
      have h := zret zy_170 h rfl rfl
      obtain ⟨e1, e2⟩ := oI h
      have h := hO11
      rw [e1, e2] at h
      clear e1 e2
      clear hO11
      have h := zm zy_210 h 1 (q := (19, darg 0 [(4, 253), (0, w)], [(0, (-1))], cup g 253 2 6)) rfl
      dsimp only at h
      have h := zret zy_210 h rfl rfl
      obtain ⟨e1, e2⟩ := oI h
      have h := hO4
      rw [e1, e2] at h
      clear e1 e2
      clear hO4
      refine Or.inr (⟨hc5, ?_⟩)
      exact zret zy_334 h rfl rfl
  · exact absurd hc1 (by omega)
theorem t_say {sv : Nat → Int32} {L n : Nat} {lf : dlf} {g : cg} {o : cg × Option cv} {a b : Int} (h : zr sv L n 343 0 lf [] g o) (hl0 : lf 0 = (4, 0)) (hl1 : lf 1 = (0, a)) (hl2 : lf 2 = (0, b)) : (((a < 0) ∨ (0 ≤ a ∧ g 3 3 ≤ a) ∨ (0 ≤ a ∧ a < g 3 3 ∧ b < 0) ∨ (0 ≤ a ∧ a < g 3 3 ∧ 0 ≤ b ∧ g 3 3 ≤ b)) ∧ (o = (cup g 0 0 1, some (0, (-1))))) ∨ ((0 ≤ a ∧ a < g 3 3 ∧ 0 ≤ b ∧ b < g 3 3) ∧ (∃ g_1, zr sv L n 91 0 (darg 0 [(4, 92), (0, a), (0, b)]) [] g (g_1, none) ∧ (∃ g_2 r_2, zr sv L n 133 0 (darg 0 [(4, 92)]) [] g_1 (g_2, some (0, r_2)) ∧ (o = (cup g_2 0 0 0, some (0, r_2)))))) := by
  rw [zov hl0, zov hl1, zov hl2] at h
  have h := zm zy_343 h 3 (q := (5, dset (dset (dset lf 2 (0, b)) 1 (0, a)) 0 (4, 0), [(0, a), (4, 3)], g)) rfl
  dsimp only at h
  obtain ⟨gz1, rz2, hk, h⟩ := zcallI zy_343 h rfl rfl zy_81 zk_81
  dsimp only at hk h
  have hO3 := h
  have h := hk
  clear hk
  have h := zm zy_81 h 2 (q := (cond (crel .lt a 0) 16 4, darg 0 [(4, 3), (0, a)], [], g)) rfl
  dsimp only at h
  rcases zif_lt h with ⟨hc4, h⟩ | ⟨hc4, h⟩
  · have h := zm zy_81 h 1 (q := (17, darg 0 [(4, 3), (0, a)], [(0, 0)], g)) rfl
    dsimp only at h
    have h := zret zy_81 h rfl rfl
    obtain ⟨e1, e2⟩ := oI h
    have h := hO3
    rw [e1, e2] at h
    clear e1 e2
    clear hO3
    have h := zm zy_343 h 3 (q := (24, dset (dset (dset lf 2 (0, b)) 1 (0, a)) 0 (4, 0), [(0, 1), (4, 0)], g)) rfl
    dsimp only at h
    obtain ⟨gz5, rz6, hk, h⟩ := zcallI zy_343 h rfl rfl zy_29 zk_29
    dsimp only at hk h
    have hO7 := h
    have h := hk
    clear hk
    have h := zm zy_29 h 4 (q := (6, darg 0 [(4, 0), (0, 1)], [(0, (-1))], cup g 0 0 1)) rfl
    dsimp only at h
    have h := zret zy_29 h rfl rfl
    obtain ⟨e1, e2⟩ := oI h
    have h := hO7
    rw [e1, e2] at h
    clear e1 e2
    clear hO7
    refine Or.inl (⟨Or.inl (hc4), ?_⟩)
    exact zret zy_343 h rfl rfl
  · have h := zm zy_81 h 4 (q := (cond (crel .ge a (g 3 3)) 16 12, darg 0 [(4, 3), (0, a)], [], g)) rfl
    dsimp only at h
    rcases zif_ge h with ⟨hc8, h⟩ | ⟨hc8, h⟩
    · have h := zm zy_81 h 1 (q := (17, darg 0 [(4, 3), (0, a)], [(0, 0)], g)) rfl
      dsimp only at h
      have h := zret zy_81 h rfl rfl
      obtain ⟨e1, e2⟩ := oI h
      have h := hO3
      rw [e1, e2] at h
      clear e1 e2
      clear hO3
      have h := zm zy_343 h 3 (q := (24, dset (dset (dset lf 2 (0, b)) 1 (0, a)) 0 (4, 0), [(0, 1), (4, 0)], g)) rfl
      dsimp only at h
      obtain ⟨gz9, rz10, hk, h⟩ := zcallI zy_343 h rfl rfl zy_29 zk_29
      dsimp only at hk h
      have hO11 := h
      have h := hk
      clear hk
      have h := zm zy_29 h 4 (q := (6, darg 0 [(4, 0), (0, 1)], [(0, (-1))], cup g 0 0 1)) rfl
      dsimp only at h
      have h := zret zy_29 h rfl rfl
      obtain ⟨e1, e2⟩ := oI h
      have h := hO11
      rw [e1, e2] at h
      clear e1 e2
      clear hO11
      refine Or.inl (⟨Or.inr (Or.inl (⟨hc4, hc8⟩)), ?_⟩)
      exact zret zy_343 h rfl rfl
    · have h := zm zy_81 h 2 (q := (17, darg 0 [(4, 3), (0, a)], [(0, 1)], g)) rfl
      dsimp only at h
      have h := zret zy_81 h rfl rfl
      obtain ⟨e1, e2⟩ := oI h
      have h := hO3
      rw [e1, e2] at h
      clear e1 e2
      clear hO3
      have h := zm zy_343 h 4 (q := (16, dset (dset (dset lf 2 (0, b)) 1 (0, a)) 0 (4, 0), [(0, b), (4, 3)], g)) rfl
      dsimp only at h
      obtain ⟨gz12, rz13, hk, h⟩ := zcallI zy_343 h rfl rfl zy_81 zk_81
      dsimp only at hk h
      have hO14 := h
      have h := hk
      clear hk
      have h := zm zy_81 h 2 (q := (cond (crel .lt b 0) 16 4, darg 0 [(4, 3), (0, b)], [], g)) rfl
      dsimp only at h
      rcases zif_lt h with ⟨hc15, h⟩ | ⟨hc15, h⟩
      · have h := zm zy_81 h 1 (q := (17, darg 0 [(4, 3), (0, b)], [(0, 0)], g)) rfl
        dsimp only at h
        have h := zret zy_81 h rfl rfl
        obtain ⟨e1, e2⟩ := oI h
        have h := hO14
        rw [e1, e2] at h
        clear e1 e2
        clear hO14
        have h := zm zy_343 h 3 (q := (24, dset (dset (dset lf 2 (0, b)) 1 (0, a)) 0 (4, 0), [(0, 1), (4, 0)], g)) rfl
        dsimp only at h
        obtain ⟨gz16, rz17, hk, h⟩ := zcallI zy_343 h rfl rfl zy_29 zk_29
        dsimp only at hk h
        have hO18 := h
        have h := hk
        clear hk
        have h := zm zy_29 h 4 (q := (6, darg 0 [(4, 0), (0, 1)], [(0, (-1))], cup g 0 0 1)) rfl
        dsimp only at h
        have h := zret zy_29 h rfl rfl
        obtain ⟨e1, e2⟩ := oI h
        have h := hO18
        rw [e1, e2] at h
        clear e1 e2
        clear hO18
        refine Or.inl (⟨Or.inr (Or.inr (Or.inl (⟨hc4, hc8, hc15⟩))), ?_⟩)
        exact zret zy_343 h rfl rfl
      · have h := zm zy_81 h 4 (q := (cond (crel .ge b (g 3 3)) 16 12, darg 0 [(4, 3), (0, b)], [], g)) rfl
        dsimp only at h
        rcases zif_ge h with ⟨hc19, h⟩ | ⟨hc19, h⟩
        · have h := zm zy_81 h 1 (q := (17, darg 0 [(4, 3), (0, b)], [(0, 0)], g)) rfl
          dsimp only at h
          have h := zret zy_81 h rfl rfl
          obtain ⟨e1, e2⟩ := oI h
          have h := hO14
          rw [e1, e2] at h
          clear e1 e2
          clear hO14
          have h := zm zy_343 h 3 (q := (24, dset (dset (dset lf 2 (0, b)) 1 (0, a)) 0 (4, 0), [(0, 1), (4, 0)], g)) rfl
          dsimp only at h
          obtain ⟨gz20, rz21, hk, h⟩ := zcallI zy_343 h rfl rfl zy_29 zk_29
          dsimp only at hk h
          have hO22 := h
          have h := hk
          clear hk
          have h := zm zy_29 h 4 (q := (6, darg 0 [(4, 0), (0, 1)], [(0, (-1))], cup g 0 0 1)) rfl
          dsimp only at h
          have h := zret zy_29 h rfl rfl
          obtain ⟨e1, e2⟩ := oI h
          have h := hO22
          rw [e1, e2] at h
          clear e1 e2
          clear hO22
          refine Or.inl (⟨Or.inr (Or.inr (Or.inr (⟨hc4, hc8, hc15, hc19⟩))), ?_⟩)
          exact zret zy_343 h rfl rfl
        · have h := zm zy_81 h 2 (q := (17, darg 0 [(4, 3), (0, b)], [(0, 1)], g)) rfl
          dsimp only at h
          have h := zret zy_81 h rfl rfl
          obtain ⟨e1, e2⟩ := oI h
          have h := hO14
          rw [e1, e2] at h
          clear e1 e2
          clear hO14
          have h := zm zy_343 h 5 (q := (34, dset (dset (dset lf 2 (0, b)) 1 (0, a)) 0 (4, 0), [(0, b), (0, a), (4, 92)], g)) rfl
          dsimp only at h
          obtain ⟨g_1, hk, h⟩ := zcallV zy_343 h rfl rfl zy_91 zk_91
          dsimp only at hk h
          refine Or.inr (⟨⟨hc4, hc8, hc15, hc19⟩, ?_⟩)
          refine ⟨g_1, hk, ?_⟩
          have h := zm zy_343 h 3 (q := (42, dset (dset (dset lf 2 (0, b)) 1 (0, a)) 0 (4, 0), [(4, 92), (4, 0)], g_1)) rfl
          dsimp only at h
          obtain ⟨g_2, r_2, hk, h⟩ := zcallI zy_343 h rfl rfl zy_133 zk_133
          dsimp only at hk h
          refine ⟨g_2, r_2, hk, ?_⟩
          obtain ⟨gz23, rz24, hk, h⟩ := zcallI zy_343 h rfl rfl zy_64 zk_64
          dsimp only at hk h
          have hO25 := h
          have h := hk
          clear hk
          have h := zm zy_64 h 4 (q := (6, darg 0 [(4, 0), (0, r_2)], [(0, r_2)], cup g_2 0 0 0)) rfl
          dsimp only at h
          have h := zret zy_64 h rfl rfl
          obtain ⟨e1, e2⟩ := oI h
          have h := hO25
          rw [e1, e2] at h
          clear e1 e2
          clear hO25
          exact zret zy_343 h rfl rfl
theorem t_dea {sv : Nat → Int32} {L n : Nat} {lf : dlf} {g : cg} {o : cg × Option cv} {a b : Int} (h : zr sv L n 345 0 lf [] g o) (hl0 : lf 0 = (4, 0)) (hl1 : lf 1 = (0, a)) (hl2 : lf 2 = (0, b)) : (((a < 0) ∨ (0 ≤ a ∧ g 3 3 ≤ a) ∨ (0 ≤ a ∧ a < g 3 3 ∧ b < 0) ∨ (0 ≤ a ∧ a < g 3 3 ∧ 0 ≤ b ∧ g 3 3 ≤ b)) ∧ (o = (cup g 0 0 1, some (0, (-1))))) ∨ ((0 ≤ a ∧ a < g 3 3 ∧ 0 ≤ b ∧ b < g 3 3) ∧ (∃ g_1, zr sv L n 91 0 (darg 0 [(4, 92), (0, a), (0, b)]) [] g (g_1, none) ∧ (∃ g_2 r_2, zr sv L n 134 0 (darg 0 [(4, 92)]) [] g_1 (g_2, some (0, r_2)) ∧ (((r_2 ≠ (-1)) ∧ (o = (cup g_2 0 0 0, some (0, r_2)))) ∨ ((r_2 = (-1)) ∧ (o = (cup g_2 0 0 6, some (0, (-1))))))))) := by
  rw [zov hl0, zov hl1, zov hl2] at h
  have h := zm zy_345 h 3 (q := (5, dset (dset (dset lf 2 (0, b)) 1 (0, a)) 0 (4, 0), [(0, a), (4, 3)], g)) rfl
  dsimp only at h
  obtain ⟨gz1, rz2, hk, h⟩ := zcallI zy_345 h rfl rfl zy_81 zk_81
  dsimp only at hk h
  have hO3 := h
  have h := hk
  clear hk
  have h := zm zy_81 h 2 (q := (cond (crel .lt a 0) 16 4, darg 0 [(4, 3), (0, a)], [], g)) rfl
  dsimp only at h
  rcases zif_lt h with ⟨hc4, h⟩ | ⟨hc4, h⟩
  · have h := zm zy_81 h 1 (q := (17, darg 0 [(4, 3), (0, a)], [(0, 0)], g)) rfl
    dsimp only at h
    have h := zret zy_81 h rfl rfl
    obtain ⟨e1, e2⟩ := oI h
    have h := hO3
    rw [e1, e2] at h
    clear e1 e2
    clear hO3
    have h := zm zy_345 h 3 (q := (24, dset (dset (dset lf 2 (0, b)) 1 (0, a)) 0 (4, 0), [(0, 1), (4, 0)], g)) rfl
    dsimp only at h
    obtain ⟨gz5, rz6, hk, h⟩ := zcallI zy_345 h rfl rfl zy_29 zk_29
    dsimp only at hk h
    have hO7 := h
    have h := hk
    clear hk
    have h := zm zy_29 h 4 (q := (6, darg 0 [(4, 0), (0, 1)], [(0, (-1))], cup g 0 0 1)) rfl
    dsimp only at h
    have h := zret zy_29 h rfl rfl
    obtain ⟨e1, e2⟩ := oI h
    have h := hO7
    rw [e1, e2] at h
    clear e1 e2
    clear hO7
    refine Or.inl (⟨Or.inl (hc4), ?_⟩)
    exact zret zy_345 h rfl rfl
  · have h := zm zy_81 h 4 (q := (cond (crel .ge a (g 3 3)) 16 12, darg 0 [(4, 3), (0, a)], [], g)) rfl
    dsimp only at h
    rcases zif_ge h with ⟨hc8, h⟩ | ⟨hc8, h⟩
    · have h := zm zy_81 h 1 (q := (17, darg 0 [(4, 3), (0, a)], [(0, 0)], g)) rfl
      dsimp only at h
      have h := zret zy_81 h rfl rfl
      obtain ⟨e1, e2⟩ := oI h
      have h := hO3
      rw [e1, e2] at h
      clear e1 e2
      clear hO3
      have h := zm zy_345 h 3 (q := (24, dset (dset (dset lf 2 (0, b)) 1 (0, a)) 0 (4, 0), [(0, 1), (4, 0)], g)) rfl
      dsimp only at h
      obtain ⟨gz9, rz10, hk, h⟩ := zcallI zy_345 h rfl rfl zy_29 zk_29
      dsimp only at hk h
      have hO11 := h
      have h := hk
      clear hk
      have h := zm zy_29 h 4 (q := (6, darg 0 [(4, 0), (0, 1)], [(0, (-1))], cup g 0 0 1)) rfl
      dsimp only at h
      have h := zret zy_29 h rfl rfl
      obtain ⟨e1, e2⟩ := oI h
      have h := hO11
      rw [e1, e2] at h
      clear e1 e2
      clear hO11
      refine Or.inl (⟨Or.inr (Or.inl (⟨hc4, hc8⟩)), ?_⟩)
      exact zret zy_345 h rfl rfl
    · have h := zm zy_81 h 2 (q := (17, darg 0 [(4, 3), (0, a)], [(0, 1)], g)) rfl
      dsimp only at h
      have h := zret zy_81 h rfl rfl
      obtain ⟨e1, e2⟩ := oI h
      have h := hO3
      rw [e1, e2] at h
      clear e1 e2
      clear hO3
      have h := zm zy_345 h 4 (q := (16, dset (dset (dset lf 2 (0, b)) 1 (0, a)) 0 (4, 0), [(0, b), (4, 3)], g)) rfl
      dsimp only at h
      obtain ⟨gz12, rz13, hk, h⟩ := zcallI zy_345 h rfl rfl zy_81 zk_81
      dsimp only at hk h
      have hO14 := h
      have h := hk
      clear hk
      have h := zm zy_81 h 2 (q := (cond (crel .lt b 0) 16 4, darg 0 [(4, 3), (0, b)], [], g)) rfl
      dsimp only at h
      rcases zif_lt h with ⟨hc15, h⟩ | ⟨hc15, h⟩
      · have h := zm zy_81 h 1 (q := (17, darg 0 [(4, 3), (0, b)], [(0, 0)], g)) rfl
        dsimp only at h
        have h := zret zy_81 h rfl rfl
        obtain ⟨e1, e2⟩ := oI h
        have h := hO14
        rw [e1, e2] at h
        clear e1 e2
        clear hO14
        have h := zm zy_345 h 3 (q := (24, dset (dset (dset lf 2 (0, b)) 1 (0, a)) 0 (4, 0), [(0, 1), (4, 0)], g)) rfl
        dsimp only at h
        obtain ⟨gz16, rz17, hk, h⟩ := zcallI zy_345 h rfl rfl zy_29 zk_29
        dsimp only at hk h
        have hO18 := h
        have h := hk
        clear hk
        have h := zm zy_29 h 4 (q := (6, darg 0 [(4, 0), (0, 1)], [(0, (-1))], cup g 0 0 1)) rfl
        dsimp only at h
        have h := zret zy_29 h rfl rfl
        obtain ⟨e1, e2⟩ := oI h
        have h := hO18
        rw [e1, e2] at h
        clear e1 e2
        clear hO18
        refine Or.inl (⟨Or.inr (Or.inr (Or.inl (⟨hc4, hc8, hc15⟩))), ?_⟩)
        exact zret zy_345 h rfl rfl
      · have h := zm zy_81 h 4 (q := (cond (crel .ge b (g 3 3)) 16 12, darg 0 [(4, 3), (0, b)], [], g)) rfl
        dsimp only at h
        rcases zif_ge h with ⟨hc19, h⟩ | ⟨hc19, h⟩
        · have h := zm zy_81 h 1 (q := (17, darg 0 [(4, 3), (0, b)], [(0, 0)], g)) rfl
          dsimp only at h
          have h := zret zy_81 h rfl rfl
          obtain ⟨e1, e2⟩ := oI h
          have h := hO14
          rw [e1, e2] at h
          clear e1 e2
          clear hO14
          have h := zm zy_345 h 3 (q := (24, dset (dset (dset lf 2 (0, b)) 1 (0, a)) 0 (4, 0), [(0, 1), (4, 0)], g)) rfl
          dsimp only at h
          obtain ⟨gz20, rz21, hk, h⟩ := zcallI zy_345 h rfl rfl zy_29 zk_29
          dsimp only at hk h
          have hO22 := h
          have h := hk
          clear hk
          have h := zm zy_29 h 4 (q := (6, darg 0 [(4, 0), (0, 1)], [(0, (-1))], cup g 0 0 1)) rfl
          dsimp only at h
          have h := zret zy_29 h rfl rfl
          obtain ⟨e1, e2⟩ := oI h
          have h := hO22
          rw [e1, e2] at h
          clear e1 e2
          clear hO22
          refine Or.inl (⟨Or.inr (Or.inr (Or.inr (⟨hc4, hc8, hc15, hc19⟩))), ?_⟩)
          exact zret zy_345 h rfl rfl
        · have h := zm zy_81 h 2 (q := (17, darg 0 [(4, 3), (0, b)], [(0, 1)], g)) rfl
          dsimp only at h
          have h := zret zy_81 h rfl rfl
          obtain ⟨e1, e2⟩ := oI h
          have h := hO14
          rw [e1, e2] at h
          clear e1 e2
          clear hO14
          have h := zm zy_345 h 5 (q := (34, dset (dset (dset lf 2 (0, b)) 1 (0, a)) 0 (4, 0), [(0, b), (0, a), (4, 92)], g)) rfl
          dsimp only at h
          obtain ⟨g_1, hk, h⟩ := zcallV zy_345 h rfl rfl zy_91 zk_91
          dsimp only at hk h
          refine Or.inr (⟨⟨hc4, hc8, hc15, hc19⟩, ?_⟩)
          refine ⟨g_1, hk, ?_⟩
          have h := zm zy_345 h 2 (q := (41, dset (dset (dset lf 2 (0, b)) 1 (0, a)) 0 (4, 0), [(4, 92)], g_1)) rfl
          dsimp only at h
          obtain ⟨g_2, r_2, hk, h⟩ := zcallI zy_345 h rfl rfl zy_134 zk_134
          dsimp only at hk h
          refine ⟨g_2, r_2, hk, ?_⟩
          have h := zm zy_345 h 4 (q := (cond (crel .ne r_2 ((-1))) 59 50, dset (dset (dset (dset lf 2 (0, b)) 1 (0, a)) 0 (4, 0)) 3 (0, r_2), [], g_2)) rfl
          dsimp only at h
          rcases zif_ne h with ⟨hc23, h⟩ | ⟨hc23, h⟩
          · have h := zm zy_345 h 2 (q := (61, dset (dset (dset (dset lf 2 (0, b)) 1 (0, a)) 0 (4, 0)) 3 (0, r_2), [(0, r_2), (4, 0)], g_2)) rfl
            dsimp only at h
            obtain ⟨gz24, rz25, hk, h⟩ := zcallI zy_345 h rfl rfl zy_64 zk_64
            dsimp only at hk h
            have hO26 := h
            have h := hk
            clear hk
            have h := zm zy_64 h 4 (q := (6, darg 0 [(4, 0), (0, r_2)], [(0, r_2)], cup g_2 0 0 0)) rfl
            dsimp only at h
            have h := zret zy_64 h rfl rfl
            obtain ⟨e1, e2⟩ := oI h
            have h := hO26
            rw [e1, e2] at h
            clear e1 e2
            clear hO26
            refine Or.inl (⟨hc23, ?_⟩)
            exact zret zy_345 h rfl rfl
          · have h := zm zy_345 h 2 (q := (53, dset (dset (dset (dset lf 2 (0, b)) 1 (0, a)) 0 (4, 0)) 3 (0, r_2), [(0, 6), (4, 0)], g_2)) rfl
            dsimp only at h
            obtain ⟨gz27, rz28, hk, h⟩ := zcallI zy_345 h rfl rfl zy_29 zk_29
            dsimp only at hk h
            have hO29 := h
            have h := hk
            clear hk
            have h := zm zy_29 h 4 (q := (6, darg 0 [(4, 0), (0, 6)], [(0, (-1))], cup g_2 0 0 6)) rfl
            dsimp only at h
            have h := zret zy_29 h rfl rfl
            obtain ⟨e1, e2⟩ := oI h
            have h := hO29
            rw [e1, e2] at h
            clear e1 e2
            clear hO29
            have h := zm zy_345 h 1 (q := (64, dset (dset (dset (dset lf 2 (0, b)) 1 (0, a)) 0 (4, 0)) 3 (0, r_2), [(0, (-1))], cup g_2 0 0 6)) rfl
            dsimp only at h
            refine Or.inr (⟨hc23, ?_⟩)
            exact zret zy_345 h rfl rfl
theorem t_cns0 {sv : Nat → Int32} {L n : Nat} {lf : dlf} {g : cg} {o : cg × Option cv} (h : zr sv L n 133 0 lf [] g o) (hl0 : lf 0 = (4, 92)) : ∃ lf', lf' 0 = (4, 92) ∧ lf' 1 = (0, 0) ∧ lf' 2 = (0, 0) ∧ zr sv L n 133 4 lf' [] g o := by
  rw [zov hl0] at h
  have h := zm zy_133 h 4 (q := (4, dset (dset (dset lf 0 (4, 92)) 1 (0, 0)) 2 (0, 0), [], g)) rfl
  dsimp only at h
  exact ⟨_, rfl, rfl, rfl, h⟩
theorem t_cns_o {sv : Nat → Int32} {L n : Nat} {lf : dlf} {g : cg} {o : cg × Option cv} {m T : Nat} (rm : m ≤ 40) (rT : T ≤ 7) (h : zr sv L (n + 1) 133 4 lf [] g o) (hl0 : lf 0 = (4, 92)) (hl1 : lf 1 = (0, (m : Int))) (hl2 : lf 2 = (0, (T : Int))) : ∃ lf', lf' 0 = (4, 92) ∧ lf' 1 = (0, (m : Int)) ∧ lf' 2 = (0, (T : Int)) ∧ lf' 3 = (0, 0) ∧ zr sv L n 133 12 lf' [] g o := by
  rw [zov hl0, zov hl1, zov hl2] at h
  have h := zm1 zy_133 h 2 (q := (cond (crel .ge ((T : Int)) 8) 47 10, dset (dset (dset lf 2 (0, (T : Int))) 1 (0, (m : Int))) 0 (4, 92), [], g)) rfl
  dsimp only at h
  rcases zif_ge h with ⟨hc1, h⟩ | ⟨hc1, h⟩
  · exact absurd hc1 (by omega)
  · have h := zm zy_133 h 2 (q := (12, dset (dset (dset (dset lf 2 (0, (T : Int))) 1 (0, (m : Int))) 0 (4, 92)) 3 (0, 0), [], g)) rfl
    dsimp only at h
    exact ⟨_, rfl, rfl, rfl, rfl, h⟩
theorem t_cns_x {sv : Nat → Int32} {L n : Nat} {lf : dlf} {g : cg} {o : cg × Option cv} {m : Nat} (rm : m ≤ 40) (h : zr sv L (n + 1) 133 4 lf [] g o) (hl0 : lf 0 = (4, 92)) (hl1 : lf 1 = (0, (m : Int))) (hl2 : lf 2 = (0, 8)) : o = (g, some (0, (m : Int))) := by
  rw [zov hl0, zov hl1, zov hl2] at h
  have h := zm1 zy_133 h 3 (q := (48, dset (dset (dset lf 2 (0, 8)) 1 (0, (m : Int))) 0 (4, 92), [(0, (m : Int))], g)) rfl
  dsimp only at h
  exact zret zy_133 h rfl rfl
theorem t_cns_s {sv : Nat → Int32} {L n : Nat} {lf : dlf} {g : cg} {o : cg × Option cv} {m T k N : Nat} (rm : m ≤ 39) (rT : T ≤ 7) (rk : k ≤ 4) (rN : N ≤ 5) (hQ : g 3 0 = (N : Int)) (hlt : k < N) (h : zr sv L (n + 1) 133 12 lf [] g o) (hl0 : lf 0 = (4, 92)) (hl1 : lf 1 = (0, (m : Int))) (hl2 : lf 2 = (0, (T : Int))) (hl3 : lf 3 = (0, (k : Int))) : ∃ g_1 r_1, zr sv L n 94 0 (darg 0 [(4, 92), (0, (k : Int)), (0, (T : Int))]) [] g (g_1, some (0, r_1)) ∧ (((r_1 ≠ 0) ∧ (∃ lf', lf' 0 = (4, 92) ∧ lf' 1 = (0, (m : Int)) ∧ lf' 2 = (0, (T : Int)) ∧ lf' 3 = (0, 1 + (k : Int)) ∧ zr sv L n 133 12 lf' [] g_1 o)) ∨ ((r_1 = 0) ∧ (∃ lf', lf' 0 = (4, 92) ∧ lf' 1 = (0, 1 + (m : Int)) ∧ lf' 2 = (0, (T : Int)) ∧ lf' 3 = (0, 1 + (k : Int)) ∧ zr sv L n 133 12 lf' [] g_1 o))) := by
  rw [zov hl0, zov hl1, zov hl2, zov hl3] at h
  have h := zm1 zy_133 h 4 (q := (cond (crel .ge ((k : Int)) (g 3 0)) 41 23, dset (dset (dset (dset lf 3 (0, (k : Int))) 2 (0, (T : Int))) 1 (0, (m : Int))) 0 (4, 92), [], g)) rfl
  dsimp only at h
  try rw [hQ] at h
  rcases zif_ge h with ⟨hc1, h⟩ | ⟨hc1, h⟩
  · exact absurd hc1 (by omega)
  · have h := zm zy_133 h 3 (q := (26, dset (dset (dset (dset lf 3 (0, (k : Int))) 2 (0, (T : Int))) 1 (0, (m : Int))) 0 (4, 92), [(0, (T : Int)), (0, (k : Int)), (4, 92)], g)) rfl
    dsimp only at h
    obtain ⟨g_1, r_1, hk, h⟩ := zcallI zy_133 h rfl rfl zy_94 zk_94
    dsimp only at hk h
    refine ⟨g_1, r_1, hk, ?_⟩
    have h := zm zy_133 h 1 (q := (cond (crel .ne r_1 0) 35 32, dset (dset (dset (dset lf 3 (0, (k : Int))) 2 (0, (T : Int))) 1 (0, (m : Int))) 0 (4, 92), [], g_1)) rfl
    dsimp only at h
    rcases zif_ne h with ⟨hc2, h⟩ | ⟨hc2, h⟩
    · have h := zm zy_133 h 2 (q := (12, dset (dset (dset (dset (dset lf 3 (0, (k : Int))) 2 (0, (T : Int))) 1 (0, (m : Int))) 0 (4, 92)) 3 (0, w32 (((k : Int)) + 1)), [], g_1)) rfl
      dsimp only at h
      try rw [w32_eq (z := ((k : Int)) + 1) (v := 1 + (k : Int)) (by omega) (by omega) (by omega)] at h
      refine Or.inl (⟨hc2, ?_⟩)
      exact ⟨_, rfl, rfl, rfl, rfl, h⟩
    · have h := zm zy_133 h 3 (q := (12, dset (dset (dset (dset (dset (dset lf 3 (0, (k : Int))) 2 (0, (T : Int))) 1 (0, (m : Int))) 0 (4, 92)) 1 (0, w32 (((m : Int)) + 1))) 3 (0, w32 (((k : Int)) + 1)), [], g_1)) rfl
      dsimp only at h
      try rw [w32_eq (z := ((m : Int)) + 1) (v := 1 + (m : Int)) (by omega) (by omega) (by omega)] at h
      try rw [w32_eq (z := ((k : Int)) + 1) (v := 1 + (k : Int)) (by omega) (by omega) (by omega)] at h
      refine Or.inr (⟨hc2, ?_⟩)
      exact ⟨_, rfl, rfl, rfl, rfl, h⟩
theorem t_cns_e {sv : Nat → Int32} {L n : Nat} {lf : dlf} {g : cg} {o : cg × Option cv} {m T k N : Nat} (rm : m ≤ 40) (rT : T ≤ 7) (rk : k ≤ 5) (rN : N ≤ 5) (hQ : g 3 0 = (N : Int)) (hge : N ≤ k) (h : zr sv L (n + 1) 133 12 lf [] g o) (hl0 : lf 0 = (4, 92)) (hl1 : lf 1 = (0, (m : Int))) (hl2 : lf 2 = (0, (T : Int))) (hl3 : lf 3 = (0, (k : Int))) : ∃ lf', lf' 0 = (4, 92) ∧ lf' 1 = (0, (m : Int)) ∧ lf' 2 = (0, 1 + (T : Int)) ∧ zr sv L n 133 4 lf' [] g o := by
  rw [zov hl0, zov hl1, zov hl2, zov hl3] at h
  have h := zm1 zy_133 h 4 (q := (cond (crel .ge ((k : Int)) (g 3 0)) 41 23, dset (dset (dset (dset lf 3 (0, (k : Int))) 2 (0, (T : Int))) 1 (0, (m : Int))) 0 (4, 92), [], g)) rfl
  dsimp only at h
  try rw [hQ] at h
  rcases zif_ge h with ⟨hc1, h⟩ | ⟨hc1, h⟩
  · have h := zm zy_133 h 2 (q := (4, dset (dset (dset (dset (dset lf 3 (0, (k : Int))) 2 (0, (T : Int))) 1 (0, (m : Int))) 0 (4, 92)) 2 (0, w32 (((T : Int)) + 1)), [], g)) rfl
    dsimp only at h
    try rw [w32_eq (z := ((T : Int)) + 1) (v := 1 + (T : Int)) (by omega) (by omega) (by omega)] at h
    exact ⟨_, rfl, rfl, rfl, h⟩
  · exact absurd hc1 (by omega)
theorem t_hip0 {sv : Nat → Int32} {L n : Nat} {lf : dlf} {g : cg} {o : cg × Option cv} (h : zr sv L n 134 0 lf [] g o) (hl0 : lf 0 = (4, 92)) : ∃ lf', lf' 0 = (4, 92) ∧ lf' 1 = (0, (-1)) ∧ lf' 2 = (0, 0) ∧ zr sv L n 134 4 lf' [] g o := by
  rw [zov hl0] at h
  have h := zm zy_134 h 4 (q := (4, dset (dset (dset lf 0 (4, 92)) 1 (0, (-1))) 2 (0, 0), [], g)) rfl
  dsimp only at h
  exact ⟨_, rfl, rfl, rfl, h⟩
theorem t_hip_o {sv : Nat → Int32} {L n : Nat} {lf : dlf} {g : cg} {o : cg × Option cv} {T : Nat} {w : Int} (rT : T ≤ 7) (h : zr sv L (n + 1) 134 4 lf [] g o) (hl0 : lf 0 = (4, 92)) (hl1 : lf 1 = (0, w)) (hl2 : lf 2 = (0, (T : Int))) : ∃ lf', lf' 0 = (4, 92) ∧ lf' 1 = (0, w) ∧ lf' 2 = (0, (T : Int)) ∧ lf' 3 = (0, 0) ∧ zr sv L n 134 12 lf' [] g o := by
  rw [zov hl0, zov hl1, zov hl2] at h
  have h := zm1 zy_134 h 2 (q := (cond (crel .ge ((T : Int)) 8) 55 10, dset (dset (dset lf 2 (0, (T : Int))) 1 (0, w)) 0 (4, 92), [], g)) rfl
  dsimp only at h
  rcases zif_ge h with ⟨hc1, h⟩ | ⟨hc1, h⟩
  · exact absurd hc1 (by omega)
  · have h := zm zy_134 h 2 (q := (12, dset (dset (dset (dset lf 2 (0, (T : Int))) 1 (0, w)) 0 (4, 92)) 3 (0, 0), [], g)) rfl
    dsimp only at h
    exact ⟨_, rfl, rfl, rfl, rfl, h⟩
theorem t_hip_x {sv : Nat → Int32} {L n : Nat} {lf : dlf} {g : cg} {o : cg × Option cv} {w : Int} (h : zr sv L (n + 1) 134 4 lf [] g o) (hl0 : lf 0 = (4, 92)) (hl1 : lf 1 = (0, w)) (hl2 : lf 2 = (0, 8)) : o = (g, some (0, w)) := by
  rw [zov hl0, zov hl1, zov hl2] at h
  have h := zm1 zy_134 h 3 (q := (56, dset (dset (dset lf 2 (0, 8)) 1 (0, w)) 0 (4, 92), [(0, w)], g)) rfl
  dsimp only at h
  exact zret zy_134 h rfl rfl
theorem t_hip_s {sv : Nat → Int32} {L n : Nat} {lf : dlf} {g : cg} {o : cg × Option cv} {T k N : Nat} {w : Int} (rT : T ≤ 7) (rk : k ≤ 4) (rN : N ≤ 5) (hQ : g 3 0 = (N : Int)) (hlt : k < N) (h : zr sv L (n + 1) 134 12 lf [] g o) (hl0 : lf 0 = (4, 92)) (hl1 : lf 1 = (0, w)) (hl2 : lf 2 = (0, (T : Int))) (hl3 : lf 3 = (0, (k : Int))) : ∃ g_1 r_1, zr sv L n 94 0 (darg 0 [(4, 92), (0, (k : Int)), (0, (T : Int))]) [] g (g_1, some (0, r_1)) ∧ (((r_1 ≠ 0) ∧ (∃ lf', lf' 0 = (4, 92) ∧ lf' 1 = (0, w) ∧ lf' 2 = (0, (T : Int)) ∧ lf' 3 = (0, 1 + (k : Int)) ∧ zr sv L n 134 12 lf' [] g_1 o)) ∨ ((r_1 = 0) ∧ (∃ g_2 r_2, zr sv L n 96 0 (darg 0 [(4, 92), (0, (k : Int)), (0, (T : Int))]) [] g_1 (g_2, some (0, r_2)) ∧ (((w < r_2) ∧ (∃ lf', lf' 0 = (4, 92) ∧ lf' 1 = (0, r_2) ∧ lf' 2 = (0, (T : Int)) ∧ lf' 3 = (0, 1 + (k : Int)) ∧ zr sv L n 134 12 lf' [] g_2 o)) ∨ ((r_2 ≤ w) ∧ (∃ lf', lf' 0 = (4, 92) ∧ lf' 1 = (0, w) ∧ lf' 2 = (0, (T : Int)) ∧ lf' 3 = (0, 1 + (k : Int)) ∧ zr sv L n 134 12 lf' [] g_2 o)))))) := by
  rw [zov hl0, zov hl1, zov hl2, zov hl3] at h
  have h := zm1 zy_134 h 4 (q := (cond (crel .ge ((k : Int)) (g 3 0)) 49 23, dset (dset (dset (dset lf 3 (0, (k : Int))) 2 (0, (T : Int))) 1 (0, w)) 0 (4, 92), [], g)) rfl
  dsimp only at h
  try rw [hQ] at h
  rcases zif_ge h with ⟨hc1, h⟩ | ⟨hc1, h⟩
  · exact absurd hc1 (by omega)
  · have h := zm zy_134 h 3 (q := (26, dset (dset (dset (dset lf 3 (0, (k : Int))) 2 (0, (T : Int))) 1 (0, w)) 0 (4, 92), [(0, (T : Int)), (0, (k : Int)), (4, 92)], g)) rfl
    dsimp only at h
    obtain ⟨g_1, r_1, hk, h⟩ := zcallI zy_134 h rfl rfl zy_94 zk_94
    dsimp only at hk h
    refine ⟨g_1, r_1, hk, ?_⟩
    have h := zm zy_134 h 1 (q := (cond (crel .ne r_1 0) 43 32, dset (dset (dset (dset lf 3 (0, (k : Int))) 2 (0, (T : Int))) 1 (0, w)) 0 (4, 92), [], g_1)) rfl
    dsimp only at h
    rcases zif_ne h with ⟨hc2, h⟩ | ⟨hc2, h⟩
    · have h := zm zy_134 h 2 (q := (12, dset (dset (dset (dset (dset lf 3 (0, (k : Int))) 2 (0, (T : Int))) 1 (0, w)) 0 (4, 92)) 3 (0, w32 (((k : Int)) + 1)), [], g_1)) rfl
      dsimp only at h
      try rw [w32_eq (z := ((k : Int)) + 1) (v := 1 + (k : Int)) (by omega) (by omega) (by omega)] at h
      refine Or.inl (⟨hc2, ?_⟩)
      exact ⟨_, rfl, rfl, rfl, rfl, h⟩
    · have h := zm zy_134 h 4 (q := (36, dset (dset (dset (dset lf 3 (0, (k : Int))) 2 (0, (T : Int))) 1 (0, w)) 0 (4, 92), [(0, (T : Int)), (0, (k : Int)), (4, 92), (0, w)], g_1)) rfl
      dsimp only at h
      obtain ⟨g_2, r_2, hk, h⟩ := zcallI zy_134 h rfl rfl zy_96 zk_96
      dsimp only at hk h
      refine Or.inr (⟨hc2, ?_⟩)
      refine ⟨g_2, r_2, hk, ?_⟩
      obtain ⟨gz4, rz5, hk, h⟩ := zcallI zy_134 h rfl rfl zy_135 zk_135
      dsimp only at hk h
      have hO6 := h
      have h := hk
      clear hk
      have h := zm zy_135 h 3 (q := (cond (crel .lt w r_2) 9 5, darg 0 [(0, w), (0, r_2)], [], g_2)) rfl
      dsimp only at h
      rcases zif_lt h with ⟨hc7, h⟩ | ⟨hc7, h⟩
      · have h := zm zy_135 h 1 (q := (10, darg 0 [(0, w), (0, r_2)], [(0, r_2)], g_2)) rfl
        dsimp only at h
        have h := zret zy_135 h rfl rfl
        obtain ⟨e1, e2⟩ := oI h
        have h := hO6
        rw [e1, e2] at h
        clear e1 e2
        clear hO6
        have h := zm zy_134 h 3 (q := (12, dset (dset (dset (dset (dset (dset lf 3 (0, (k : Int))) 2 (0, (T : Int))) 1 (0, w)) 0 (4, 92)) 1 (0, r_2)) 3 (0, w32 (((k : Int)) + 1)), [], g_2)) rfl
        dsimp only at h
        try rw [w32_eq (z := ((k : Int)) + 1) (v := 1 + (k : Int)) (by omega) (by omega) (by omega)] at h
        refine Or.inl (⟨hc7, ?_⟩)
        exact ⟨_, rfl, rfl, rfl, rfl, h⟩
      · have h := zm zy_135 h 2 (q := (10, darg 0 [(0, w), (0, r_2)], [(0, w)], g_2)) rfl
        dsimp only at h
        have h := zret zy_135 h rfl rfl
        obtain ⟨e1, e2⟩ := oI h
        have h := hO6
        rw [e1, e2] at h
        clear e1 e2
        clear hO6
        have h := zm zy_134 h 3 (q := (12, dset (dset (dset (dset (dset (dset lf 3 (0, (k : Int))) 2 (0, (T : Int))) 1 (0, w)) 0 (4, 92)) 1 (0, w)) 3 (0, w32 (((k : Int)) + 1)), [], g_2)) rfl
        dsimp only at h
        try rw [w32_eq (z := ((k : Int)) + 1) (v := 1 + (k : Int)) (by omega) (by omega) (by omega)] at h
        refine Or.inr (⟨hc7, ?_⟩)
        exact ⟨_, rfl, rfl, rfl, rfl, h⟩
theorem t_hip_e {sv : Nat → Int32} {L n : Nat} {lf : dlf} {g : cg} {o : cg × Option cv} {T k N : Nat} {w : Int} (rT : T ≤ 7) (rk : k ≤ 5) (rN : N ≤ 5) (hQ : g 3 0 = (N : Int)) (hge : N ≤ k) (h : zr sv L (n + 1) 134 12 lf [] g o) (hl0 : lf 0 = (4, 92)) (hl1 : lf 1 = (0, w)) (hl2 : lf 2 = (0, (T : Int))) (hl3 : lf 3 = (0, (k : Int))) : ∃ lf', lf' 0 = (4, 92) ∧ lf' 1 = (0, w) ∧ lf' 2 = (0, 1 + (T : Int)) ∧ zr sv L n 134 4 lf' [] g o := by
  rw [zov hl0, zov hl1, zov hl2, zov hl3] at h
  have h := zm1 zy_134 h 4 (q := (cond (crel .ge ((k : Int)) (g 3 0)) 49 23, dset (dset (dset (dset lf 3 (0, (k : Int))) 2 (0, (T : Int))) 1 (0, w)) 0 (4, 92), [], g)) rfl
  dsimp only at h
  try rw [hQ] at h
  rcases zif_ge h with ⟨hc1, h⟩ | ⟨hc1, h⟩
  · have h := zm zy_134 h 2 (q := (4, dset (dset (dset (dset (dset lf 3 (0, (k : Int))) 2 (0, (T : Int))) 1 (0, w)) 0 (4, 92)) 2 (0, w32 (((T : Int)) + 1)), [], g)) rfl
    dsimp only at h
    try rw [w32_eq (z := ((T : Int)) + 1) (v := 1 + (T : Int)) (by omega) (by omega) (by omega)] at h
    exact ⟨_, rfl, rfl, rfl, h⟩
  · exact absurd hc1 (by omega)
theorem m_say {sv : Nat → Int32} {L n : Nat} {lf : dlf} {g : cg} {o : cg × Option cv} {a b : Int} (h : zr sv L n 344 0 lf [] g o) (hl0 : lf 0 = (4, 253)) (hl1 : lf 1 = (0, a)) (hl2 : lf 2 = (0, b)) : (((a < 0) ∨ (0 ≤ a ∧ g 254 1 ≤ a) ∨ (0 ≤ a ∧ a < g 254 1 ∧ b < 0) ∨ (0 ≤ a ∧ a < g 254 1 ∧ 0 ≤ b ∧ g 254 1 ≤ b)) ∧ (o = (cup g 253 2 1, some (0, (-1))))) ∨ ((0 ≤ a ∧ a < g 254 1 ∧ 0 ≤ b ∧ b < g 254 1) ∧ (∃ g_1 r_1, zr sv L n 242 0 (darg 0 [(4, 253), (0, a), (0, b)]) [] g (g_1, some (0, r_1)) ∧ (o = (cup g_1 253 2 0, some (0, r_1))))) := by
  rw [zov hl0, zov hl1, zov hl2] at h
  have h := zm zy_344 h 2 (q := (2, dset (dset (dset lf 2 (0, b)) 1 (0, a)) 0 (4, 253), [(0, a), (4, 253)], g)) rfl
  dsimp only at h
  obtain ⟨gz1, rz2, hk, h⟩ := zcallI zy_344 h rfl rfl zy_208 zk_208
  dsimp only at hk h
  have hO3 := h
  have h := hk
  clear hk
  have h := zm zy_208 h 2 (q := (cond (crel .lt a 0) 18 4, darg 0 [(4, 253), (0, a)], [], g)) rfl
  dsimp only at h
  rcases zif_lt h with ⟨hc4, h⟩ | ⟨hc4, h⟩
  · have h := zm zy_208 h 1 (q := (19, darg 0 [(4, 253), (0, a)], [(0, 0)], g)) rfl
    dsimp only at h
    have h := zret zy_208 h rfl rfl
    obtain ⟨e1, e2⟩ := oI h
    have h := hO3
    rw [e1, e2] at h
    clear e1 e2
    clear hO3
    have h := zm zy_344 h 3 (q := (31, dset (dset (dset lf 2 (0, b)) 1 (0, a)) 0 (4, 253), [(0, 1), (4, 253)], g)) rfl
    dsimp only at h
    obtain ⟨gz5, rz6, hk, h⟩ := zcallI zy_344 h rfl rfl zy_170 zk_170
    dsimp only at hk h
    have hO7 := h
    have h := hk
    clear hk
    have h := zm zy_170 h 4 (q := (6, darg 0 [(4, 253), (0, 1)], [(0, (-1))], cup g 253 2 1)) rfl
    dsimp only at h
    have h := zret zy_170 h rfl rfl
    obtain ⟨e1, e2⟩ := oI h
    have h := hO7
    rw [e1, e2] at h
    clear e1 e2
    clear hO7
    refine Or.inl (⟨Or.inl (hc4), ?_⟩)
    exact zret zy_344 h rfl rfl
  · have h := zm zy_208 h 6 (q := (cond (crel .ge a (g 254 1)) 18 14, darg 0 [(4, 253), (0, a)], [], g)) rfl
    dsimp only at h
    rcases zif_ge h with ⟨hc8, h⟩ | ⟨hc8, h⟩
    · have h := zm zy_208 h 1 (q := (19, darg 0 [(4, 253), (0, a)], [(0, 0)], g)) rfl
      dsimp only at h
      have h := zret zy_208 h rfl rfl
      obtain ⟨e1, e2⟩ := oI h
      have h := hO3
      rw [e1, e2] at h
      clear e1 e2
      clear hO3
      have h := zm zy_344 h 3 (q := (31, dset (dset (dset lf 2 (0, b)) 1 (0, a)) 0 (4, 253), [(0, 1), (4, 253)], g)) rfl
      dsimp only at h
      obtain ⟨gz9, rz10, hk, h⟩ := zcallI zy_344 h rfl rfl zy_170 zk_170
      dsimp only at hk h
      have hO11 := h
      have h := hk
      clear hk
      have h := zm zy_170 h 4 (q := (6, darg 0 [(4, 253), (0, 1)], [(0, (-1))], cup g 253 2 1)) rfl
      dsimp only at h
      have h := zret zy_170 h rfl rfl
      obtain ⟨e1, e2⟩ := oI h
      have h := hO11
      rw [e1, e2] at h
      clear e1 e2
      clear hO11
      refine Or.inl (⟨Or.inr (Or.inl (⟨hc4, hc8⟩)), ?_⟩)
      exact zret zy_344 h rfl rfl
    · have h := zm zy_208 h 2 (q := (19, darg 0 [(4, 253), (0, a)], [(0, 1)], g)) rfl
      dsimp only at h
      have h := zret zy_208 h rfl rfl
      obtain ⟨e1, e2⟩ := oI h
      have h := hO3
      rw [e1, e2] at h
      clear e1 e2
      clear hO3
      have h := zm zy_344 h 3 (q := (10, dset (dset (dset lf 2 (0, b)) 1 (0, a)) 0 (4, 253), [(0, b), (4, 253)], g)) rfl
      dsimp only at h
      obtain ⟨gz12, rz13, hk, h⟩ := zcallI zy_344 h rfl rfl zy_208 zk_208
      dsimp only at hk h
      have hO14 := h
      have h := hk
      clear hk
      have h := zm zy_208 h 2 (q := (cond (crel .lt b 0) 18 4, darg 0 [(4, 253), (0, b)], [], g)) rfl
      dsimp only at h
      rcases zif_lt h with ⟨hc15, h⟩ | ⟨hc15, h⟩
      · have h := zm zy_208 h 1 (q := (19, darg 0 [(4, 253), (0, b)], [(0, 0)], g)) rfl
        dsimp only at h
        have h := zret zy_208 h rfl rfl
        obtain ⟨e1, e2⟩ := oI h
        have h := hO14
        rw [e1, e2] at h
        clear e1 e2
        clear hO14
        have h := zm zy_344 h 3 (q := (31, dset (dset (dset lf 2 (0, b)) 1 (0, a)) 0 (4, 253), [(0, 1), (4, 253)], g)) rfl
        dsimp only at h
        obtain ⟨gz16, rz17, hk, h⟩ := zcallI zy_344 h rfl rfl zy_170 zk_170
        dsimp only at hk h
        have hO18 := h
        have h := hk
        clear hk
        have h := zm zy_170 h 4 (q := (6, darg 0 [(4, 253), (0, 1)], [(0, (-1))], cup g 253 2 1)) rfl
        dsimp only at h
        have h := zret zy_170 h rfl rfl
        obtain ⟨e1, e2⟩ := oI h
        have h := hO18
        rw [e1, e2] at h
        clear e1 e2
        clear hO18
        refine Or.inl (⟨Or.inr (Or.inr (Or.inl (⟨hc4, hc8, hc15⟩))), ?_⟩)
        exact zret zy_344 h rfl rfl
      · have h := zm zy_208 h 6 (q := (cond (crel .ge b (g 254 1)) 18 14, darg 0 [(4, 253), (0, b)], [], g)) rfl
        dsimp only at h
        rcases zif_ge h with ⟨hc19, h⟩ | ⟨hc19, h⟩
        · have h := zm zy_208 h 1 (q := (19, darg 0 [(4, 253), (0, b)], [(0, 0)], g)) rfl
          dsimp only at h
          have h := zret zy_208 h rfl rfl
          obtain ⟨e1, e2⟩ := oI h
          have h := hO14
          rw [e1, e2] at h
          clear e1 e2
          clear hO14
          have h := zm zy_344 h 3 (q := (31, dset (dset (dset lf 2 (0, b)) 1 (0, a)) 0 (4, 253), [(0, 1), (4, 253)], g)) rfl
          dsimp only at h
          obtain ⟨gz20, rz21, hk, h⟩ := zcallI zy_344 h rfl rfl zy_170 zk_170
          dsimp only at hk h
          have hO22 := h
          have h := hk
          clear hk
          have h := zm zy_170 h 4 (q := (6, darg 0 [(4, 253), (0, 1)], [(0, (-1))], cup g 253 2 1)) rfl
          dsimp only at h
          have h := zret zy_170 h rfl rfl
          obtain ⟨e1, e2⟩ := oI h
          have h := hO22
          rw [e1, e2] at h
          clear e1 e2
          clear hO22
          refine Or.inl (⟨Or.inr (Or.inr (Or.inr (⟨hc4, hc8, hc15, hc19⟩))), ?_⟩)
          exact zret zy_344 h rfl rfl
        · have h := zm zy_208 h 2 (q := (19, darg 0 [(4, 253), (0, b)], [(0, 1)], g)) rfl
          dsimp only at h
          have h := zret zy_208 h rfl rfl
          obtain ⟨e1, e2⟩ := oI h
          have h := hO14
          rw [e1, e2] at h
          clear e1 e2
          clear hO14
          have h := zm zy_344 h 5 (q := (20, dset (dset (dset lf 2 (0, b)) 1 (0, a)) 0 (4, 253), [(0, b), (0, a), (4, 253), (4, 253)], g)) rfl
          dsimp only at h
          obtain ⟨g_1, r_1, hk, h⟩ := zcallI zy_344 h rfl rfl zy_242 zk_242
          dsimp only at hk h
          refine Or.inr (⟨⟨hc4, hc8, hc15, hc19⟩, ?_⟩)
          refine ⟨g_1, r_1, hk, ?_⟩
          obtain ⟨gz23, rz24, hk, h⟩ := zcallI zy_344 h rfl rfl zy_192 zk_192
          dsimp only at hk h
          have hO25 := h
          have h := hk
          clear hk
          have h := zm zy_192 h 4 (q := (6, darg 0 [(4, 253), (0, r_1)], [(0, r_1)], cup g_1 253 2 0)) rfl
          dsimp only at h
          have h := zret zy_192 h rfl rfl
          obtain ⟨e1, e2⟩ := oI h
          have h := hO25
          rw [e1, e2] at h
          clear e1 e2
          clear hO25
          have h := zm zy_344 h 1 (q := (34, dset (dset (dset lf 2 (0, b)) 1 (0, a)) 0 (4, 253), [(0, r_1)], cup g_1 253 2 0)) rfl
          dsimp only at h
          exact zret zy_344 h rfl rfl
theorem m_syo0 {sv : Nat → Int32} {L n : Nat} {lf : dlf} {g : cg} {o : cg × Option cv} {W P : Nat} (rW : W ≤ 5) (rP : P ≤ 5) (h : zr sv L n 242 0 lf [] g o) (hl0 : lf 0 = (4, 253)) (hl1 : lf 1 = (0, (W : Int))) (hl2 : lf 2 = (0, (P : Int))) : ∃ lf', lf' 0 = (4, 253) ∧ lf' 1 = (0, (W : Int)) ∧ lf' 2 = (0, (P : Int)) ∧ lf' 3 = (0, 0) ∧ lf' 4 = (0, 0) ∧ zr sv L n 242 5 lf' [] g o := by
  rw [zov hl0, zov hl1, zov hl2] at h
  have h := zm zy_242 h 4 (q := (5, dset (dset (dset (dset (dset lf 2 (0, (P : Int))) 1 (0, (W : Int))) 0 (4, 253)) 3 (0, 0)) 4 (0, 0), [], g)) rfl
  dsimp only at h
  exact ⟨_, rfl, rfl, rfl, rfl, rfl, h⟩
theorem m_syo_o {sv : Nat → Int32} {L n : Nat} {lf : dlf} {g : cg} {o : cg × Option cv} {W P m T : Nat} (rW : W ≤ 5) (rP : P ≤ 5) (rm : m ≤ 40) (rT : T ≤ 7) (h : zr sv L (n + 1) 242 5 lf [] g o) (hl0 : lf 0 = (4, 253)) (hl1 : lf 1 = (0, (W : Int))) (hl2 : lf 2 = (0, (P : Int))) (hl3 : lf 3 = (0, (m : Int))) (hl4 : lf 4 = (0, (T : Int))) : ∃ lf', lf' 0 = (4, 253) ∧ lf' 1 = (0, (W : Int)) ∧ lf' 2 = (0, (P : Int)) ∧ lf' 3 = (0, (m : Int)) ∧ lf' 4 = (0, (T : Int)) ∧ lf' 5 = (0, 0) ∧ zr sv L n 242 15 lf' [] g o := by
  rw [zov hl0, zov hl1, zov hl2, zov hl3, zov hl4] at h
  have h := zm1 zy_242 h 2 (q := (cond (crel .ge ((T : Int)) 8) 59 12, dset (dset (dset (dset (dset lf 4 (0, (T : Int))) 3 (0, (m : Int))) 2 (0, (P : Int))) 1 (0, (W : Int))) 0 (4, 253), [], g)) rfl
  dsimp only at h
  rcases zif_ge h with ⟨hc1, h⟩ | ⟨hc1, h⟩
  · exact absurd hc1 (by omega)
  · have h := zm zy_242 h 2 (q := (15, dset (dset (dset (dset (dset (dset lf 4 (0, (T : Int))) 3 (0, (m : Int))) 2 (0, (P : Int))) 1 (0, (W : Int))) 0 (4, 253)) 5 (0, 0), [], g)) rfl
    dsimp only at h
    exact ⟨_, rfl, rfl, rfl, rfl, rfl, rfl, h⟩
theorem m_syo_x {sv : Nat → Int32} {L n : Nat} {lf : dlf} {g : cg} {o : cg × Option cv} {W P m : Nat} (rW : W ≤ 5) (rP : P ≤ 5) (rm : m ≤ 40) (h : zr sv L (n + 1) 242 5 lf [] g o) (hl0 : lf 0 = (4, 253)) (hl1 : lf 1 = (0, (W : Int))) (hl2 : lf 2 = (0, (P : Int))) (hl3 : lf 3 = (0, (m : Int))) (hl4 : lf 4 = (0, 8)) : o = (g, some (0, (m : Int))) := by
  rw [zov hl0, zov hl1, zov hl2, zov hl3, zov hl4] at h
  have h := zm1 zy_242 h 3 (q := (60, dset (dset (dset (dset (dset lf 4 (0, 8)) 3 (0, (m : Int))) 2 (0, (P : Int))) 1 (0, (W : Int))) 0 (4, 253), [(0, (m : Int))], g)) rfl
  dsimp only at h
  exact zret zy_242 h rfl rfl
theorem m_syo_s {sv : Nat → Int32} {L n : Nat} {lf : dlf} {g : cg} {o : cg × Option cv} {W P m T k N : Nat} (rW : W ≤ 5) (rP : P ≤ 5) (rm : m ≤ 39) (rT : T ≤ 7) (rk : k ≤ 4) (rN : N ≤ 5) (hQ : g 254 0 = (N : Int)) (hlt : k < N) (h : zr sv L (n + 1) 242 15 lf [] g o) (hl0 : lf 0 = (4, 253)) (hl1 : lf 1 = (0, (W : Int))) (hl2 : lf 2 = (0, (P : Int))) (hl3 : lf 3 = (0, (m : Int))) (hl4 : lf 4 = (0, (T : Int))) (hl5 : lf 5 = (0, (k : Int))) : ∃ g_1 r_1, zr sv L n 220 0 (darg 0 [(4, 253), (0, (W : Int)), (0, (P : Int)), (0, (k : Int)), (0, (T : Int))]) [] g (g_1, some (0, r_1)) ∧ (((r_1 ≠ 0) ∧ (∃ lf', lf' 0 = (4, 253) ∧ lf' 1 = (0, (W : Int)) ∧ lf' 2 = (0, (P : Int)) ∧ lf' 3 = (0, (m : Int)) ∧ lf' 4 = (0, (T : Int)) ∧ lf' 5 = (0, 1 + (k : Int)) ∧ zr sv L n 242 15 lf' [] g_1 o)) ∨ ((r_1 = 0) ∧ (∃ lf', lf' 0 = (4, 253) ∧ lf' 1 = (0, (W : Int)) ∧ lf' 2 = (0, (P : Int)) ∧ lf' 3 = (0, 1 + (m : Int)) ∧ lf' 4 = (0, (T : Int)) ∧ lf' 5 = (0, 1 + (k : Int)) ∧ zr sv L n 242 15 lf' [] g_1 o))) := by
  rw [zov hl0, zov hl1, zov hl2, zov hl3, zov hl4, zov hl5] at h
  have h := zm1 zy_242 h 5 (q := (cond (crel .ge ((k : Int)) (g 254 0)) 53 26, dset (dset (dset (dset (dset (dset lf 5 (0, (k : Int))) 4 (0, (T : Int))) 3 (0, (m : Int))) 2 (0, (P : Int))) 1 (0, (W : Int))) 0 (4, 253), [], g)) rfl
  dsimp only at h
  try rw [hQ] at h
  rcases zif_ge h with ⟨hc1, h⟩ | ⟨hc1, h⟩
  · exact absurd hc1 (by omega)
  · have h := zm zy_242 h 6 (q := (34, dset (dset (dset (dset (dset (dset lf 5 (0, (k : Int))) 4 (0, (T : Int))) 3 (0, (m : Int))) 2 (0, (P : Int))) 1 (0, (W : Int))) 0 (4, 253), [(0, (T : Int)), (0, (k : Int)), (0, (P : Int)), (0, (W : Int)), (4, 253), (0, (m : Int))], g)) rfl
    dsimp only at h
    obtain ⟨g_1, r_1, hk, h⟩ := zcallI zy_242 h rfl rfl zy_220 zk_220
    dsimp only at hk h
    refine ⟨g_1, r_1, hk, ?_⟩
    have h := zm zy_242 h 1 (q := (cond (crel .ne r_1 0) 44 40, dset (dset (dset (dset (dset (dset lf 5 (0, (k : Int))) 4 (0, (T : Int))) 3 (0, (m : Int))) 2 (0, (P : Int))) 1 (0, (W : Int))) 0 (4, 253), [(0, (m : Int))], g_1)) rfl
    dsimp only at h
    rcases zif_ne h with ⟨hc2, h⟩ | ⟨hc2, h⟩
    · have h := zm zy_242 h 5 (q := (15, dset (dset (dset (dset (dset (dset (dset (dset lf 5 (0, (k : Int))) 4 (0, (T : Int))) 3 (0, (m : Int))) 2 (0, (P : Int))) 1 (0, (W : Int))) 0 (4, 253)) 3 (0, w32 (((m : Int)) + 0))) 5 (0, w32 (((k : Int)) + 1)), [], g_1)) rfl
      dsimp only at h
      try rw [w32_eq (z := ((m : Int)) + 0) (v := (m : Int)) (by omega) (by omega) (by omega)] at h
      try rw [w32_eq (z := ((k : Int)) + 1) (v := 1 + (k : Int)) (by omega) (by omega) (by omega)] at h
      refine Or.inl (⟨hc2, ?_⟩)
      exact ⟨_, rfl, rfl, rfl, rfl, rfl, rfl, h⟩
    · have h := zm zy_242 h 6 (q := (15, dset (dset (dset (dset (dset (dset (dset (dset lf 5 (0, (k : Int))) 4 (0, (T : Int))) 3 (0, (m : Int))) 2 (0, (P : Int))) 1 (0, (W : Int))) 0 (4, 253)) 3 (0, w32 (((m : Int)) + 1))) 5 (0, w32 (((k : Int)) + 1)), [], g_1)) rfl
      dsimp only at h
      try rw [w32_eq (z := ((m : Int)) + 1) (v := 1 + (m : Int)) (by omega) (by omega) (by omega)] at h
      try rw [w32_eq (z := ((k : Int)) + 1) (v := 1 + (k : Int)) (by omega) (by omega) (by omega)] at h
      refine Or.inr (⟨hc2, ?_⟩)
      exact ⟨_, rfl, rfl, rfl, rfl, rfl, rfl, h⟩
theorem m_syo_e {sv : Nat → Int32} {L n : Nat} {lf : dlf} {g : cg} {o : cg × Option cv} {W P m T k N : Nat} (rW : W ≤ 5) (rP : P ≤ 5) (rm : m ≤ 40) (rT : T ≤ 7) (rk : k ≤ 5) (rN : N ≤ 5) (hQ : g 254 0 = (N : Int)) (hge : N ≤ k) (h : zr sv L (n + 1) 242 15 lf [] g o) (hl0 : lf 0 = (4, 253)) (hl1 : lf 1 = (0, (W : Int))) (hl2 : lf 2 = (0, (P : Int))) (hl3 : lf 3 = (0, (m : Int))) (hl4 : lf 4 = (0, (T : Int))) (hl5 : lf 5 = (0, (k : Int))) : ∃ lf', lf' 0 = (4, 253) ∧ lf' 1 = (0, (W : Int)) ∧ lf' 2 = (0, (P : Int)) ∧ lf' 3 = (0, (m : Int)) ∧ lf' 4 = (0, 1 + (T : Int)) ∧ zr sv L n 242 5 lf' [] g o := by
  rw [zov hl0, zov hl1, zov hl2, zov hl3, zov hl4, zov hl5] at h
  have h := zm1 zy_242 h 5 (q := (cond (crel .ge ((k : Int)) (g 254 0)) 53 26, dset (dset (dset (dset (dset (dset lf 5 (0, (k : Int))) 4 (0, (T : Int))) 3 (0, (m : Int))) 2 (0, (P : Int))) 1 (0, (W : Int))) 0 (4, 253), [], g)) rfl
  dsimp only at h
  try rw [hQ] at h
  rcases zif_ge h with ⟨hc1, h⟩ | ⟨hc1, h⟩
  · have h := zm zy_242 h 2 (q := (5, dset (dset (dset (dset (dset (dset (dset lf 5 (0, (k : Int))) 4 (0, (T : Int))) 3 (0, (m : Int))) 2 (0, (P : Int))) 1 (0, (W : Int))) 0 (4, 253)) 4 (0, w32 (((T : Int)) + 1)), [], g)) rfl
    dsimp only at h
    try rw [w32_eq (z := ((T : Int)) + 1) (v := 1 + (T : Int)) (by omega) (by omega) (by omega)] at h
    exact ⟨_, rfl, rfl, rfl, rfl, rfl, h⟩
  · exact absurd hc1 (by omega)
theorem m_dea0 {sv : Nat → Int32} {L n : Nat} {lf : dlf} {g : cg} {o : cg × Option cv} {a b : Int} (h : zr sv L n 346 0 lf [] g o) (hl0 : lf 0 = (4, 253)) (hl1 : lf 1 = (0, a)) (hl2 : lf 2 = (0, b)) : (((a < 0) ∨ (0 ≤ a ∧ g 254 1 ≤ a) ∨ (0 ≤ a ∧ a < g 254 1 ∧ b < 0) ∨ (0 ≤ a ∧ a < g 254 1 ∧ 0 ≤ b ∧ g 254 1 ≤ b)) ∧ (o = (cup g 253 2 1, some (0, (-1))))) ∨ ((0 ≤ a ∧ a < g 254 1 ∧ 0 ≤ b ∧ b < g 254 1) ∧ (∃ lf', lf' 0 = (4, 253) ∧ lf' 1 = (0, a) ∧ lf' 2 = (0, b) ∧ zr sv L n 346 22 lf' [] g o)) := by
  rw [zov hl0, zov hl1, zov hl2] at h
  have h := zm zy_346 h 2 (q := (2, dset (dset (dset lf 2 (0, b)) 1 (0, a)) 0 (4, 253), [(0, a), (4, 253)], g)) rfl
  dsimp only at h
  obtain ⟨gz1, rz2, hk, h⟩ := zcallI zy_346 h rfl rfl zy_208 zk_208
  dsimp only at hk h
  have hO3 := h
  have h := hk
  clear hk
  have h := zm zy_208 h 2 (q := (cond (crel .lt a 0) 18 4, darg 0 [(4, 253), (0, a)], [], g)) rfl
  dsimp only at h
  rcases zif_lt h with ⟨hc4, h⟩ | ⟨hc4, h⟩
  · have h := zm zy_208 h 1 (q := (19, darg 0 [(4, 253), (0, a)], [(0, 0)], g)) rfl
    dsimp only at h
    have h := zret zy_208 h rfl rfl
    obtain ⟨e1, e2⟩ := oI h
    have h := hO3
    rw [e1, e2] at h
    clear e1 e2
    clear hO3
    have h := zm zy_346 h 3 (q := (18, dset (dset (dset lf 2 (0, b)) 1 (0, a)) 0 (4, 253), [(0, 1), (4, 253)], g)) rfl
    dsimp only at h
    obtain ⟨gz5, rz6, hk, h⟩ := zcallI zy_346 h rfl rfl zy_170 zk_170
    dsimp only at hk h
    have hO7 := h
    have h := hk
    clear hk
    have h := zm zy_170 h 4 (q := (6, darg 0 [(4, 253), (0, 1)], [(0, (-1))], cup g 253 2 1)) rfl
    dsimp only at h
    have h := zret zy_170 h rfl rfl
    obtain ⟨e1, e2⟩ := oI h
    have h := hO7
    rw [e1, e2] at h
    clear e1 e2
    clear hO7
    refine Or.inl (⟨Or.inl (hc4), ?_⟩)
    exact zret zy_346 h rfl rfl
  · have h := zm zy_208 h 6 (q := (cond (crel .ge a (g 254 1)) 18 14, darg 0 [(4, 253), (0, a)], [], g)) rfl
    dsimp only at h
    rcases zif_ge h with ⟨hc8, h⟩ | ⟨hc8, h⟩
    · have h := zm zy_208 h 1 (q := (19, darg 0 [(4, 253), (0, a)], [(0, 0)], g)) rfl
      dsimp only at h
      have h := zret zy_208 h rfl rfl
      obtain ⟨e1, e2⟩ := oI h
      have h := hO3
      rw [e1, e2] at h
      clear e1 e2
      clear hO3
      have h := zm zy_346 h 3 (q := (18, dset (dset (dset lf 2 (0, b)) 1 (0, a)) 0 (4, 253), [(0, 1), (4, 253)], g)) rfl
      dsimp only at h
      obtain ⟨gz9, rz10, hk, h⟩ := zcallI zy_346 h rfl rfl zy_170 zk_170
      dsimp only at hk h
      have hO11 := h
      have h := hk
      clear hk
      have h := zm zy_170 h 4 (q := (6, darg 0 [(4, 253), (0, 1)], [(0, (-1))], cup g 253 2 1)) rfl
      dsimp only at h
      have h := zret zy_170 h rfl rfl
      obtain ⟨e1, e2⟩ := oI h
      have h := hO11
      rw [e1, e2] at h
      clear e1 e2
      clear hO11
      refine Or.inl (⟨Or.inr (Or.inl (⟨hc4, hc8⟩)), ?_⟩)
      exact zret zy_346 h rfl rfl
    · have h := zm zy_208 h 2 (q := (19, darg 0 [(4, 253), (0, a)], [(0, 1)], g)) rfl
      dsimp only at h
      have h := zret zy_208 h rfl rfl
      obtain ⟨e1, e2⟩ := oI h
      have h := hO3
      rw [e1, e2] at h
      clear e1 e2
      clear hO3
      have h := zm zy_346 h 3 (q := (10, dset (dset (dset lf 2 (0, b)) 1 (0, a)) 0 (4, 253), [(0, b), (4, 253)], g)) rfl
      dsimp only at h
      obtain ⟨gz12, rz13, hk, h⟩ := zcallI zy_346 h rfl rfl zy_208 zk_208
      dsimp only at hk h
      have hO14 := h
      have h := hk
      clear hk
      have h := zm zy_208 h 2 (q := (cond (crel .lt b 0) 18 4, darg 0 [(4, 253), (0, b)], [], g)) rfl
      dsimp only at h
      rcases zif_lt h with ⟨hc15, h⟩ | ⟨hc15, h⟩
      · have h := zm zy_208 h 1 (q := (19, darg 0 [(4, 253), (0, b)], [(0, 0)], g)) rfl
        dsimp only at h
        have h := zret zy_208 h rfl rfl
        obtain ⟨e1, e2⟩ := oI h
        have h := hO14
        rw [e1, e2] at h
        clear e1 e2
        clear hO14
        have h := zm zy_346 h 3 (q := (18, dset (dset (dset lf 2 (0, b)) 1 (0, a)) 0 (4, 253), [(0, 1), (4, 253)], g)) rfl
        dsimp only at h
        obtain ⟨gz16, rz17, hk, h⟩ := zcallI zy_346 h rfl rfl zy_170 zk_170
        dsimp only at hk h
        have hO18 := h
        have h := hk
        clear hk
        have h := zm zy_170 h 4 (q := (6, darg 0 [(4, 253), (0, 1)], [(0, (-1))], cup g 253 2 1)) rfl
        dsimp only at h
        have h := zret zy_170 h rfl rfl
        obtain ⟨e1, e2⟩ := oI h
        have h := hO18
        rw [e1, e2] at h
        clear e1 e2
        clear hO18
        refine Or.inl (⟨Or.inr (Or.inr (Or.inl (⟨hc4, hc8, hc15⟩))), ?_⟩)
        exact zret zy_346 h rfl rfl
      · have h := zm zy_208 h 6 (q := (cond (crel .ge b (g 254 1)) 18 14, darg 0 [(4, 253), (0, b)], [], g)) rfl
        dsimp only at h
        rcases zif_ge h with ⟨hc19, h⟩ | ⟨hc19, h⟩
        · have h := zm zy_208 h 1 (q := (19, darg 0 [(4, 253), (0, b)], [(0, 0)], g)) rfl
          dsimp only at h
          have h := zret zy_208 h rfl rfl
          obtain ⟨e1, e2⟩ := oI h
          have h := hO14
          rw [e1, e2] at h
          clear e1 e2
          clear hO14
          have h := zm zy_346 h 3 (q := (18, dset (dset (dset lf 2 (0, b)) 1 (0, a)) 0 (4, 253), [(0, 1), (4, 253)], g)) rfl
          dsimp only at h
          obtain ⟨gz20, rz21, hk, h⟩ := zcallI zy_346 h rfl rfl zy_170 zk_170
          dsimp only at hk h
          have hO22 := h
          have h := hk
          clear hk
          have h := zm zy_170 h 4 (q := (6, darg 0 [(4, 253), (0, 1)], [(0, (-1))], cup g 253 2 1)) rfl
          dsimp only at h
          have h := zret zy_170 h rfl rfl
          obtain ⟨e1, e2⟩ := oI h
          have h := hO22
          rw [e1, e2] at h
          clear e1 e2
          clear hO22
          refine Or.inl (⟨Or.inr (Or.inr (Or.inr (⟨hc4, hc8, hc15, hc19⟩))), ?_⟩)
          exact zret zy_346 h rfl rfl
        · have h := zm zy_208 h 2 (q := (19, darg 0 [(4, 253), (0, b)], [(0, 1)], g)) rfl
          dsimp only at h
          have h := zret zy_208 h rfl rfl
          obtain ⟨e1, e2⟩ := oI h
          have h := hO14
          rw [e1, e2] at h
          clear e1 e2
          clear hO14
          have h := zm zy_346 h 1 (q := (22, dset (dset (dset lf 2 (0, b)) 1 (0, a)) 0 (4, 253), [], g)) rfl
          dsimp only at h
          refine Or.inr (⟨⟨hc4, hc8, hc15, hc19⟩, ?_⟩)
          exact ⟨_, rfl, rfl, rfl, h⟩
theorem m_dea22 {sv : Nat → Int32} {L n : Nat} {lf : dlf} {g : cg} {o : cg × Option cv} {W P : Nat} (rW : W ≤ 5) (rP : P ≤ 5) (h : zr sv L n 346 22 lf [] g o) (hl0 : lf 0 = (4, 253)) (hl1 : lf 1 = (0, (W : Int))) (hl2 : lf 2 = (0, (P : Int))) : ∃ lf', lf' 0 = (4, 253) ∧ lf' 1 = (0, (W : Int)) ∧ lf' 2 = (0, (P : Int)) ∧ lf' 3 = (0, (-1)) ∧ lf' 4 = (0, 0) ∧ zr sv L n 346 27 lf' [] g o := by
  rw [zov hl0, zov hl1, zov hl2] at h
  have h := zm zy_346 h 4 (q := (27, dset (dset (dset (dset (dset lf 2 (0, (P : Int))) 1 (0, (W : Int))) 0 (4, 253)) 3 (0, (-1))) 4 (0, 0), [], g)) rfl
  dsimp only at h
  exact ⟨_, rfl, rfl, rfl, rfl, rfl, h⟩
theorem m_dea_o {sv : Nat → Int32} {L n : Nat} {lf : dlf} {g : cg} {o : cg × Option cv} {W P T : Nat} {w : Int} (rW : W ≤ 5) (rP : P ≤ 5) (rT : T ≤ 7) (h : zr sv L (n + 1) 346 27 lf [] g o) (hl0 : lf 0 = (4, 253)) (hl1 : lf 1 = (0, (W : Int))) (hl2 : lf 2 = (0, (P : Int))) (hl3 : lf 3 = (0, w)) (hl4 : lf 4 = (0, (T : Int))) : ∃ lf', lf' 0 = (4, 253) ∧ lf' 1 = (0, (W : Int)) ∧ lf' 2 = (0, (P : Int)) ∧ lf' 3 = (0, w) ∧ lf' 4 = (0, (T : Int)) ∧ lf' 5 = (0, 0) ∧ zr sv L n 346 37 lf' [] g o := by
  rw [zov hl0, zov hl1, zov hl2, zov hl3, zov hl4] at h
  have h := zm1 zy_346 h 2 (q := (cond (crel .ge ((T : Int)) 8) 88 34, dset (dset (dset (dset (dset lf 4 (0, (T : Int))) 3 (0, w)) 2 (0, (P : Int))) 1 (0, (W : Int))) 0 (4, 253), [], g)) rfl
  dsimp only at h
  rcases zif_ge h with ⟨hc1, h⟩ | ⟨hc1, h⟩
  · exact absurd hc1 (by omega)
  · have h := zm zy_346 h 2 (q := (37, dset (dset (dset (dset (dset (dset lf 4 (0, (T : Int))) 3 (0, w)) 2 (0, (P : Int))) 1 (0, (W : Int))) 0 (4, 253)) 5 (0, 0), [], g)) rfl
    dsimp only at h
    exact ⟨_, rfl, rfl, rfl, rfl, rfl, rfl, h⟩
theorem m_dea_x {sv : Nat → Int32} {L n : Nat} {lf : dlf} {g : cg} {o : cg × Option cv} {W P : Nat} {w : Int} (rW : W ≤ 5) (rP : P ≤ 5) (h : zr sv L (n + 1) 346 27 lf [] g o) (hl0 : lf 0 = (4, 253)) (hl1 : lf 1 = (0, (W : Int))) (hl2 : lf 2 = (0, (P : Int))) (hl3 : lf 3 = (0, w)) (hl4 : lf 4 = (0, 8)) : ((w ≠ (-1)) ∧ (o = (cup g 253 2 0, some (0, w)))) ∨ ((w = (-1)) ∧ (o = (cup g 253 2 6, some (0, (-1))))) := by
  rw [zov hl0, zov hl1, zov hl2, zov hl3, zov hl4] at h
  have h := zm1 zy_346 h 4 (q := (90, dset (dset (dset (dset (dset lf 4 (0, 8)) 3 (0, w)) 2 (0, (P : Int))) 1 (0, (W : Int))) 0 (4, 253), [(0, w), (4, 253)], g)) rfl
  dsimp only at h
  obtain ⟨gz1, rz2, hk, h⟩ := zcallI zy_346 h rfl rfl zy_210 zk_210
  dsimp only at hk h
  have hO3 := h
  have h := hk
  clear hk
  have h := zm zy_210 h 3 (q := (cond (crel .ne w ((-1))) 14 5, darg 0 [(4, 253), (0, w)], [], g)) rfl
  dsimp only at h
  rcases zif_ne h with ⟨hc4, h⟩ | ⟨hc4, h⟩
  · have h := zm zy_210 h 2 (q := (16, darg 0 [(4, 253), (0, w)], [(0, w), (4, 253)], g)) rfl
    dsimp only at h
    obtain ⟨gz5, rz6, hk, h⟩ := zcallI zy_210 h rfl rfl zy_192 zk_192
    dsimp only at hk h
    have hO7 := h
    have h := hk
    clear hk
    have h := zm zy_192 h 4 (q := (6, darg 0 [(4, 253), (0, w)], [(0, w)], cup g 253 2 0)) rfl
    dsimp only at h
    have h := zret zy_192 h rfl rfl
    obtain ⟨e1, e2⟩ := oI h
    have h := hO7
    rw [e1, e2] at h
    clear e1 e2
    clear hO7
    have h := zret zy_210 h rfl rfl
    obtain ⟨e1, e2⟩ := oI h
    have h := hO3
    rw [e1, e2] at h
    clear e1 e2
    clear hO3
    refine Or.inl (⟨hc4, ?_⟩)
    exact zret zy_346 h rfl rfl
  · have h := zm zy_210 h 2 (q := (8, darg 0 [(4, 253), (0, w)], [(0, 6), (4, 253)], g)) rfl
    dsimp only at h
    obtain ⟨gz8, rz9, hk, h⟩ := zcallI zy_210 h rfl rfl zy_170 zk_170
    dsimp only at hk h
    have hO10 := h
    have h := hk
    clear hk
    have h := zm zy_170 h 4 (q := (6, darg 0 [(4, 253), (0, 6)], [(0, (-1))], cup g 253 2 6)) rfl
    dsimp only at h
    have h := zret zy_170 h rfl rfl
    obtain ⟨e1, e2⟩ := oI h
    have h := hO10
    rw [e1, e2] at h
    clear e1 e2
    clear hO10
    have h := zm zy_210 h 1 (q := (19, darg 0 [(4, 253), (0, w)], [(0, (-1))], cup g 253 2 6)) rfl
    dsimp only at h
    have h := zret zy_210 h rfl rfl
    obtain ⟨e1, e2⟩ := oI h
    have h := hO3
    rw [e1, e2] at h
    clear e1 e2
    clear hO3
    refine Or.inr (⟨hc4, ?_⟩)
    exact zret zy_346 h rfl rfl
theorem m_dea_s {sv : Nat → Int32} {L n : Nat} {lf : dlf} {g : cg} {o : cg × Option cv} {W P T k N : Nat} {w : Int} (rW : W ≤ 5) (rP : P ≤ 5) (rT : T ≤ 7) (rk : k ≤ 4) (rN : N ≤ 5) (hQ : g 254 0 = (N : Int)) (hlt : k < N) (h : zr sv L (n + 1) 346 37 lf [] g o) (hl0 : lf 0 = (4, 253)) (hl1 : lf 1 = (0, (W : Int))) (hl2 : lf 2 = (0, (P : Int))) (hl3 : lf 3 = (0, w)) (hl4 : lf 4 = (0, (T : Int))) (hl5 : lf 5 = (0, (k : Int))) : ∃ g_1 r_1, zr sv L n 220 0 (darg 0 [(4, 253), (0, (W : Int)), (0, (P : Int)), (0, (k : Int)), (0, (T : Int))]) [] g (g_1, some (0, r_1)) ∧ (((r_1 ≠ 0) ∧ (∃ lf', lf' 0 = (4, 253) ∧ lf' 1 = (0, (W : Int)) ∧ lf' 2 = (0, (P : Int)) ∧ lf' 3 = (0, w) ∧ lf' 4 = (0, (T : Int)) ∧ lf' 5 = (0, 1 + (k : Int)) ∧ zr sv L n 346 37 lf' [] g_1 o)) ∨ ((r_1 = 0) ∧ (∃ g_2 r_2, zr sv L n 224 0 (darg 0 [(4, 253), (0, (W : Int)), (0, (P : Int)), (0, (k : Int)), (0, (T : Int))]) [] g_1 (g_2, some (0, r_2)) ∧ (((w < r_2) ∧ (∃ lf', lf' 0 = (4, 253) ∧ lf' 1 = (0, (W : Int)) ∧ lf' 2 = (0, (P : Int)) ∧ lf' 3 = (0, r_2) ∧ lf' 4 = (0, (T : Int)) ∧ lf' 5 = (0, 1 + (k : Int)) ∧ zr sv L n 346 37 lf' [] g_2 o)) ∨ ((r_2 ≤ w) ∧ (∃ lf', lf' 0 = (4, 253) ∧ lf' 1 = (0, (W : Int)) ∧ lf' 2 = (0, (P : Int)) ∧ lf' 3 = (0, w) ∧ lf' 4 = (0, (T : Int)) ∧ lf' 5 = (0, 1 + (k : Int)) ∧ zr sv L n 346 37 lf' [] g_2 o)))))) := by
  rw [zov hl0, zov hl1, zov hl2, zov hl3, zov hl4, zov hl5] at h
  have h := zm1 zy_346 h 5 (q := (cond (crel .ge ((k : Int)) (g 254 0)) 82 48, dset (dset (dset (dset (dset (dset lf 5 (0, (k : Int))) 4 (0, (T : Int))) 3 (0, w)) 2 (0, (P : Int))) 1 (0, (W : Int))) 0 (4, 253), [], g)) rfl
  dsimp only at h
  try rw [hQ] at h
  rcases zif_ge h with ⟨hc1, h⟩ | ⟨hc1, h⟩
  · exact absurd hc1 (by omega)
  · have h := zm zy_346 h 5 (q := (55, dset (dset (dset (dset (dset (dset lf 5 (0, (k : Int))) 4 (0, (T : Int))) 3 (0, w)) 2 (0, (P : Int))) 1 (0, (W : Int))) 0 (4, 253), [(0, (T : Int)), (0, (k : Int)), (0, (P : Int)), (0, (W : Int)), (4, 253)], g)) rfl
    dsimp only at h
    obtain ⟨g_1, r_1, hk, h⟩ := zcallI zy_346 h rfl rfl zy_220 zk_220
    dsimp only at hk h
    refine ⟨g_1, r_1, hk, ?_⟩
    have h := zm zy_346 h 1 (q := (cond (crel .ne r_1 0) 76 61, dset (dset (dset (dset (dset (dset lf 5 (0, (k : Int))) 4 (0, (T : Int))) 3 (0, w)) 2 (0, (P : Int))) 1 (0, (W : Int))) 0 (4, 253), [], g_1)) rfl
    dsimp only at h
    rcases zif_ne h with ⟨hc2, h⟩ | ⟨hc2, h⟩
    · have h := zm zy_346 h 2 (q := (37, dset (dset (dset (dset (dset (dset (dset lf 5 (0, (k : Int))) 4 (0, (T : Int))) 3 (0, w)) 2 (0, (P : Int))) 1 (0, (W : Int))) 0 (4, 253)) 5 (0, w32 (((k : Int)) + 1)), [], g_1)) rfl
      dsimp only at h
      try rw [w32_eq (z := ((k : Int)) + 1) (v := 1 + (k : Int)) (by omega) (by omega) (by omega)] at h
      refine Or.inl (⟨hc2, ?_⟩)
      exact ⟨_, rfl, rfl, rfl, rfl, rfl, rfl, h⟩
    · have h := zm zy_346 h 6 (q := (69, dset (dset (dset (dset (dset (dset lf 5 (0, (k : Int))) 4 (0, (T : Int))) 3 (0, w)) 2 (0, (P : Int))) 1 (0, (W : Int))) 0 (4, 253), [(0, (T : Int)), (0, (k : Int)), (0, (P : Int)), (0, (W : Int)), (4, 253), (0, w)], g_1)) rfl
      dsimp only at h
      obtain ⟨g_2, r_2, hk, h⟩ := zcallI zy_346 h rfl rfl zy_224 zk_224
      dsimp only at hk h
      refine Or.inr (⟨hc2, ?_⟩)
      refine ⟨g_2, r_2, hk, ?_⟩
      obtain ⟨gz4, rz5, hk, h⟩ := zcallI zy_346 h rfl rfl zy_135 zk_135
      dsimp only at hk h
      have hO6 := h
      have h := hk
      clear hk
      have h := zm zy_135 h 3 (q := (cond (crel .lt w r_2) 9 5, darg 0 [(0, w), (0, r_2)], [], g_2)) rfl
      dsimp only at h
      rcases zif_lt h with ⟨hc7, h⟩ | ⟨hc7, h⟩
      · have h := zm zy_135 h 1 (q := (10, darg 0 [(0, w), (0, r_2)], [(0, r_2)], g_2)) rfl
        dsimp only at h
        have h := zret zy_135 h rfl rfl
        obtain ⟨e1, e2⟩ := oI h
        have h := hO6
        rw [e1, e2] at h
        clear e1 e2
        clear hO6
        have h := zm zy_346 h 3 (q := (37, dset (dset (dset (dset (dset (dset (dset (dset lf 5 (0, (k : Int))) 4 (0, (T : Int))) 3 (0, w)) 2 (0, (P : Int))) 1 (0, (W : Int))) 0 (4, 253)) 3 (0, r_2)) 5 (0, w32 (((k : Int)) + 1)), [], g_2)) rfl
        dsimp only at h
        try rw [w32_eq (z := ((k : Int)) + 1) (v := 1 + (k : Int)) (by omega) (by omega) (by omega)] at h
        refine Or.inl (⟨hc7, ?_⟩)
        exact ⟨_, rfl, rfl, rfl, rfl, rfl, rfl, h⟩
      · have h := zm zy_135 h 2 (q := (10, darg 0 [(0, w), (0, r_2)], [(0, w)], g_2)) rfl
        dsimp only at h
        have h := zret zy_135 h rfl rfl
        obtain ⟨e1, e2⟩ := oI h
        have h := hO6
        rw [e1, e2] at h
        clear e1 e2
        clear hO6
        have h := zm zy_346 h 3 (q := (37, dset (dset (dset (dset (dset (dset (dset (dset lf 5 (0, (k : Int))) 4 (0, (T : Int))) 3 (0, w)) 2 (0, (P : Int))) 1 (0, (W : Int))) 0 (4, 253)) 3 (0, w)) 5 (0, w32 (((k : Int)) + 1)), [], g_2)) rfl
        dsimp only at h
        try rw [w32_eq (z := ((k : Int)) + 1) (v := 1 + (k : Int)) (by omega) (by omega) (by omega)] at h
        refine Or.inr (⟨hc7, ?_⟩)
        exact ⟨_, rfl, rfl, rfl, rfl, rfl, rfl, h⟩
theorem m_dea_e {sv : Nat → Int32} {L n : Nat} {lf : dlf} {g : cg} {o : cg × Option cv} {W P T k N : Nat} {w : Int} (rW : W ≤ 5) (rP : P ≤ 5) (rT : T ≤ 7) (rk : k ≤ 5) (rN : N ≤ 5) (hQ : g 254 0 = (N : Int)) (hge : N ≤ k) (h : zr sv L (n + 1) 346 37 lf [] g o) (hl0 : lf 0 = (4, 253)) (hl1 : lf 1 = (0, (W : Int))) (hl2 : lf 2 = (0, (P : Int))) (hl3 : lf 3 = (0, w)) (hl4 : lf 4 = (0, (T : Int))) (hl5 : lf 5 = (0, (k : Int))) : ∃ lf', lf' 0 = (4, 253) ∧ lf' 1 = (0, (W : Int)) ∧ lf' 2 = (0, (P : Int)) ∧ lf' 3 = (0, w) ∧ lf' 4 = (0, 1 + (T : Int)) ∧ zr sv L n 346 27 lf' [] g o := by
  rw [zov hl0, zov hl1, zov hl2, zov hl3, zov hl4, zov hl5] at h
  have h := zm1 zy_346 h 5 (q := (cond (crel .ge ((k : Int)) (g 254 0)) 82 48, dset (dset (dset (dset (dset (dset lf 5 (0, (k : Int))) 4 (0, (T : Int))) 3 (0, w)) 2 (0, (P : Int))) 1 (0, (W : Int))) 0 (4, 253), [], g)) rfl
  dsimp only at h
  try rw [hQ] at h
  rcases zif_ge h with ⟨hc1, h⟩ | ⟨hc1, h⟩
  · have h := zm zy_346 h 2 (q := (27, dset (dset (dset (dset (dset (dset (dset lf 5 (0, (k : Int))) 4 (0, (T : Int))) 3 (0, w)) 2 (0, (P : Int))) 1 (0, (W : Int))) 0 (4, 253)) 4 (0, w32 (((T : Int)) + 1)), [], g)) rfl
    dsimp only at h
    try rw [w32_eq (z := ((T : Int)) + 1) (v := 1 + (T : Int)) (by omega) (by omega) (by omega)] at h
    exact ⟨_, rfl, rfl, rfl, rfl, rfl, h⟩
  · exact absurd hc1 (by omega)
theorem t_fts0 {sv : Nat → Int32} {L n : Nat} {lf : dlf} {g : cg} {o : cg × Option cv} {a b : Int} (h : zr sv L n 315 0 lf [] g o) (hl0 : lf 0 = (4, 0)) (hl1 : lf 1 = (0, a)) (hl2 : lf 2 = (0, b)) : (((a < 0) ∨ (0 ≤ a ∧ g 3 9 ≤ a) ∨ (0 ≤ a ∧ a < g 3 9 ∧ b < 0) ∨ (0 ≤ a ∧ a < g 3 9 ∧ 0 ≤ b ∧ g 3 9 ≤ b)) ∧ (o = (cup g 0 0 1, some (0, (-1))))) ∨ ((0 ≤ a ∧ a < g 3 9 ∧ 0 ≤ b ∧ b < g 3 9) ∧ (∃ lf', lf' 0 = (4, 0) ∧ lf' 1 = (0, a) ∧ lf' 2 = (0, b) ∧ zr sv L n 315 28 lf' [] g o)) := by
  rw [zov hl0, zov hl1, zov hl2] at h
  have h := zm zy_315 h 3 (q := (5, dset (dset (dset lf 2 (0, b)) 1 (0, a)) 0 (4, 0), [(0, a), (4, 3)], g)) rfl
  dsimp only at h
  obtain ⟨gz1, rz2, hk, h⟩ := zcallI zy_315 h rfl rfl zy_87 zk_87
  dsimp only at hk h
  have hO3 := h
  have h := hk
  clear hk
  have h := zm zy_87 h 2 (q := (cond (crel .lt a 0) 16 4, darg 0 [(4, 3), (0, a)], [], g)) rfl
  dsimp only at h
  rcases zif_lt h with ⟨hc4, h⟩ | ⟨hc4, h⟩
  · have h := zm zy_87 h 1 (q := (17, darg 0 [(4, 3), (0, a)], [(0, 0)], g)) rfl
    dsimp only at h
    have h := zret zy_87 h rfl rfl
    obtain ⟨e1, e2⟩ := oI h
    have h := hO3
    rw [e1, e2] at h
    clear e1 e2
    clear hO3
    have h := zm zy_315 h 3 (q := (24, dset (dset (dset lf 2 (0, b)) 1 (0, a)) 0 (4, 0), [(0, 1), (4, 0)], g)) rfl
    dsimp only at h
    obtain ⟨gz5, rz6, hk, h⟩ := zcallI zy_315 h rfl rfl zy_29 zk_29
    dsimp only at hk h
    have hO7 := h
    have h := hk
    clear hk
    have h := zm zy_29 h 4 (q := (6, darg 0 [(4, 0), (0, 1)], [(0, (-1))], cup g 0 0 1)) rfl
    dsimp only at h
    have h := zret zy_29 h rfl rfl
    obtain ⟨e1, e2⟩ := oI h
    have h := hO7
    rw [e1, e2] at h
    clear e1 e2
    clear hO7
    refine Or.inl (⟨Or.inl (hc4), ?_⟩)
    exact zret zy_315 h rfl rfl
  · have h := zm zy_87 h 4 (q := (cond (crel .ge a (g 3 9)) 16 12, darg 0 [(4, 3), (0, a)], [], g)) rfl
    dsimp only at h
    rcases zif_ge h with ⟨hc8, h⟩ | ⟨hc8, h⟩
    · have h := zm zy_87 h 1 (q := (17, darg 0 [(4, 3), (0, a)], [(0, 0)], g)) rfl
      dsimp only at h
      have h := zret zy_87 h rfl rfl
      obtain ⟨e1, e2⟩ := oI h
      have h := hO3
      rw [e1, e2] at h
      clear e1 e2
      clear hO3
      have h := zm zy_315 h 3 (q := (24, dset (dset (dset lf 2 (0, b)) 1 (0, a)) 0 (4, 0), [(0, 1), (4, 0)], g)) rfl
      dsimp only at h
      obtain ⟨gz9, rz10, hk, h⟩ := zcallI zy_315 h rfl rfl zy_29 zk_29
      dsimp only at hk h
      have hO11 := h
      have h := hk
      clear hk
      have h := zm zy_29 h 4 (q := (6, darg 0 [(4, 0), (0, 1)], [(0, (-1))], cup g 0 0 1)) rfl
      dsimp only at h
      have h := zret zy_29 h rfl rfl
      obtain ⟨e1, e2⟩ := oI h
      have h := hO11
      rw [e1, e2] at h
      clear e1 e2
      clear hO11
      refine Or.inl (⟨Or.inr (Or.inl (⟨hc4, hc8⟩)), ?_⟩)
      exact zret zy_315 h rfl rfl
    · have h := zm zy_87 h 2 (q := (17, darg 0 [(4, 3), (0, a)], [(0, 1)], g)) rfl
      dsimp only at h
      have h := zret zy_87 h rfl rfl
      obtain ⟨e1, e2⟩ := oI h
      have h := hO3
      rw [e1, e2] at h
      clear e1 e2
      clear hO3
      have h := zm zy_315 h 4 (q := (16, dset (dset (dset lf 2 (0, b)) 1 (0, a)) 0 (4, 0), [(0, b), (4, 3)], g)) rfl
      dsimp only at h
      obtain ⟨gz12, rz13, hk, h⟩ := zcallI zy_315 h rfl rfl zy_87 zk_87
      dsimp only at hk h
      have hO14 := h
      have h := hk
      clear hk
      have h := zm zy_87 h 2 (q := (cond (crel .lt b 0) 16 4, darg 0 [(4, 3), (0, b)], [], g)) rfl
      dsimp only at h
      rcases zif_lt h with ⟨hc15, h⟩ | ⟨hc15, h⟩
      · have h := zm zy_87 h 1 (q := (17, darg 0 [(4, 3), (0, b)], [(0, 0)], g)) rfl
        dsimp only at h
        have h := zret zy_87 h rfl rfl
        obtain ⟨e1, e2⟩ := oI h
        have h := hO14
        rw [e1, e2] at h
        clear e1 e2
        clear hO14
        have h := zm zy_315 h 3 (q := (24, dset (dset (dset lf 2 (0, b)) 1 (0, a)) 0 (4, 0), [(0, 1), (4, 0)], g)) rfl
        dsimp only at h
        obtain ⟨gz16, rz17, hk, h⟩ := zcallI zy_315 h rfl rfl zy_29 zk_29
        dsimp only at hk h
        have hO18 := h
        have h := hk
        clear hk
        have h := zm zy_29 h 4 (q := (6, darg 0 [(4, 0), (0, 1)], [(0, (-1))], cup g 0 0 1)) rfl
        dsimp only at h
        have h := zret zy_29 h rfl rfl
        obtain ⟨e1, e2⟩ := oI h
        have h := hO18
        rw [e1, e2] at h
        clear e1 e2
        clear hO18
        refine Or.inl (⟨Or.inr (Or.inr (Or.inl (⟨hc4, hc8, hc15⟩))), ?_⟩)
        exact zret zy_315 h rfl rfl
      · have h := zm zy_87 h 4 (q := (cond (crel .ge b (g 3 9)) 16 12, darg 0 [(4, 3), (0, b)], [], g)) rfl
        dsimp only at h
        rcases zif_ge h with ⟨hc19, h⟩ | ⟨hc19, h⟩
        · have h := zm zy_87 h 1 (q := (17, darg 0 [(4, 3), (0, b)], [(0, 0)], g)) rfl
          dsimp only at h
          have h := zret zy_87 h rfl rfl
          obtain ⟨e1, e2⟩ := oI h
          have h := hO14
          rw [e1, e2] at h
          clear e1 e2
          clear hO14
          have h := zm zy_315 h 3 (q := (24, dset (dset (dset lf 2 (0, b)) 1 (0, a)) 0 (4, 0), [(0, 1), (4, 0)], g)) rfl
          dsimp only at h
          obtain ⟨gz20, rz21, hk, h⟩ := zcallI zy_315 h rfl rfl zy_29 zk_29
          dsimp only at hk h
          have hO22 := h
          have h := hk
          clear hk
          have h := zm zy_29 h 4 (q := (6, darg 0 [(4, 0), (0, 1)], [(0, (-1))], cup g 0 0 1)) rfl
          dsimp only at h
          have h := zret zy_29 h rfl rfl
          obtain ⟨e1, e2⟩ := oI h
          have h := hO22
          rw [e1, e2] at h
          clear e1 e2
          clear hO22
          refine Or.inl (⟨Or.inr (Or.inr (Or.inr (⟨hc4, hc8, hc15, hc19⟩))), ?_⟩)
          exact zret zy_315 h rfl rfl
        · have h := zm zy_87 h 2 (q := (17, darg 0 [(4, 3), (0, b)], [(0, 1)], g)) rfl
          dsimp only at h
          have h := zret zy_87 h rfl rfl
          obtain ⟨e1, e2⟩ := oI h
          have h := hO14
          rw [e1, e2] at h
          clear e1 e2
          clear hO14
          have h := zm zy_315 h 1 (q := (28, dset (dset (dset lf 2 (0, b)) 1 (0, a)) 0 (4, 0), [], g)) rfl
          dsimp only at h
          refine Or.inr (⟨⟨hc4, hc8, hc15, hc19⟩, ?_⟩)
          exact ⟨_, rfl, rfl, rfl, h⟩
theorem t_fts28 {sv : Nat → Int32} {L n : Nat} {lf : dlf} {g : cg} {o : cg × Option cv} {A B p q t P Q T : Nat} (rA : A ≤ 15) (rB : B ≤ 15) (rp : p ≤ 5) (rq : q ≤ 4) (rt : t ≤ 7) (rP : P ≤ 5) (rQ : Q ≤ 4) (rT : T ≤ 7) (hA1 : g (29 + A) 1 = (p : Int)) (hA2 : g (29 + A) 2 = (q : Int)) (hA3 : g (29 + A) 3 = (t : Int)) (hB1 : g (29 + B) 1 = (P : Int)) (hB2 : g (29 + B) 2 = (Q : Int)) (hB3 : g (29 + B) 3 = (T : Int)) (h : zr sv L n 315 28 lf [] g o) (hl0 : lf 0 = (4, 0)) (hl1 : lf 1 = (0, (A : Int))) (hl2 : lf 2 = (0, (B : Int))) : (((p : Int) ≠ (P : Int)) ∧ (o = (cup g 0 0 0, some (0, 1)))) ∨ (((p : Int) = (P : Int)) ∧ (∃ g_1 r_1, zr sv L n 101 0 (darg 0 [(4, 3), (0, (q : Int)), (0, (t : Int)), (0, (Q : Int)), (0, (T : Int))]) [] g (g_1, some (0, r_1)) ∧ (((r_1 = 0) ∧ (o = (cup g_1 0 0 0, some (0, 0)))) ∨ ((r_1 ≠ 0) ∧ (o = (cup g_1 0 0 0, some (0, 1))))))) := by
  rw [zov hl0, zov hl1, zov hl2] at h
  have h := zm zy_315 h 4 (q := (36, dset (dset (dset lf 2 (0, (B : Int))) 1 (0, (A : Int))) 0 (4, 0), [(0, (A : Int)), (4, 7)], g)) rfl
  dsimp only at h
  have h := zald zy_315 h rfl rfl (dvp_7 (i := (A : Int)) (by omega) (by omega))
  dsimp only at h
  have h := zm zy_315 h 5 (q := (46, dset (dset (dset (dset lf 2 (0, (B : Int))) 1 (0, (A : Int))) 0 (4, 0)) 3 (4, 29 + ((A : Int))), [(0, (B : Int)), (4, 7)], g)) rfl
  dsimp only at h
  have h := zald zy_315 h rfl rfl (dvp_7 (i := (B : Int)) (by omega) (by omega))
  dsimp only at h
  have h := zm zy_315 h 2 (q := (50, dset (dset (dset (dset (dset lf 2 (0, (B : Int))) 1 (0, (A : Int))) 0 (4, 0)) 3 (4, 29 + ((A : Int)))) 4 (4, 29 + ((B : Int))), [(4, 29 + ((A : Int)))], g)) rfl
  dsimp only at h
  have h := zgf zy_315 h rfl rfl (dvf_29_1 (i := (A : Int)) (by omega) (by omega))
  dsimp only at h
  try rw [show (29 + ((A : Int))).toNat = 29 + A from by omega] at h
  try rw [hA1] at h
  have h := zm zy_315 h 1 (q := (55, dset (dset (dset (dset (dset lf 2 (0, (B : Int))) 1 (0, (A : Int))) 0 (4, 0)) 3 (4, 29 + ((A : Int)))) 4 (4, 29 + ((B : Int))), [(4, 29 + ((B : Int))), (0, (p : Int))], g)) rfl
  dsimp only at h
  have h := zgf zy_315 h rfl rfl (dvf_29_1 (i := (B : Int)) (by omega) (by omega))
  dsimp only at h
  try rw [show (29 + ((B : Int))).toNat = 29 + B from by omega] at h
  try rw [hB1] at h
  have h := zm zy_315 h 1 (q := (cond (crel .ne ((p : Int)) ((P : Int))) 74 61, dset (dset (dset (dset (dset lf 2 (0, (B : Int))) 1 (0, (A : Int))) 0 (4, 0)) 3 (4, 29 + ((A : Int)))) 4 (4, 29 + ((B : Int))), [], g)) rfl
  dsimp only at h
  rcases zif_ne h with ⟨hc1, h⟩ | ⟨hc1, h⟩
  · have h := zm zy_315 h 8 (q := (92, dset (dset (dset (dset (dset (dset lf 2 (0, (B : Int))) 1 (0, (A : Int))) 0 (4, 0)) 3 (4, 29 + ((A : Int)))) 4 (4, 29 + ((B : Int)))) 5 (0, 1), [(0, 1), (4, 0)], g)) rfl
    dsimp only at h
    obtain ⟨gz2, rz3, hk, h⟩ := zcallI zy_315 h rfl rfl zy_64 zk_64
    dsimp only at hk h
    have hO4 := h
    have h := hk
    clear hk
    have h := zm zy_64 h 4 (q := (6, darg 0 [(4, 0), (0, 1)], [(0, 1)], cup g 0 0 0)) rfl
    dsimp only at h
    have h := zret zy_64 h rfl rfl
    obtain ⟨e1, e2⟩ := oI h
    have h := hO4
    rw [e1, e2] at h
    clear e1 e2
    clear hO4
    refine Or.inl (⟨hc1, ?_⟩)
    exact zret zy_315 h rfl rfl
  · have h := zm zy_315 h 4 (q := (68, dset (dset (dset (dset (dset lf 2 (0, (B : Int))) 1 (0, (A : Int))) 0 (4, 0)) 3 (4, 29 + ((A : Int)))) 4 (4, 29 + ((B : Int))), [(4, 29 + ((B : Int))), (4, 29 + ((A : Int))), (4, 3)], g)) rfl
    dsimp only at h
    obtain ⟨gz5, rz6, hk, h⟩ := zcallI zy_315 h rfl rfl zy_107 zk_107
    dsimp only at hk h
    have hO7 := h
    have h := hk
    clear hk
    have h := zm zy_107 h 2 (q := (2, darg 0 [(4, 3), (4, 29 + ((A : Int))), (4, 29 + ((B : Int)))], [(4, 29 + ((A : Int))), (4, 3)], g)) rfl
    dsimp only at h
    have h := zgf zy_107 h rfl rfl (dvf_29_2 (i := (A : Int)) (by omega) (by omega))
    dsimp only at h
    try rw [show (29 + ((A : Int))).toNat = 29 + A from by omega] at h
    try rw [hA2] at h
    have h := zm zy_107 h 1 (q := (6, darg 0 [(4, 3), (4, 29 + ((A : Int))), (4, 29 + ((B : Int)))], [(4, 29 + ((A : Int))), (0, (q : Int)), (4, 3)], g)) rfl
    dsimp only at h
    have h := zgf zy_107 h rfl rfl (dvf_29_3 (i := (A : Int)) (by omega) (by omega))
    dsimp only at h
    try rw [show (29 + ((A : Int))).toNat = 29 + A from by omega] at h
    try rw [hA3] at h
    have h := zm zy_107 h 1 (q := (10, darg 0 [(4, 3), (4, 29 + ((A : Int))), (4, 29 + ((B : Int)))], [(4, 29 + ((B : Int))), (0, (t : Int)), (0, (q : Int)), (4, 3)], g)) rfl
    dsimp only at h
    have h := zgf zy_107 h rfl rfl (dvf_29_2 (i := (B : Int)) (by omega) (by omega))
    dsimp only at h
    try rw [show (29 + ((B : Int))).toNat = 29 + B from by omega] at h
    try rw [hB2] at h
    have h := zm zy_107 h 1 (q := (14, darg 0 [(4, 3), (4, 29 + ((A : Int))), (4, 29 + ((B : Int)))], [(4, 29 + ((B : Int))), (0, (Q : Int)), (0, (t : Int)), (0, (q : Int)), (4, 3)], g)) rfl
    dsimp only at h
    have h := zgf zy_107 h rfl rfl (dvf_29_3 (i := (B : Int)) (by omega) (by omega))
    dsimp only at h
    try rw [show (29 + ((B : Int))).toNat = 29 + B from by omega] at h
    try rw [hB3] at h
    obtain ⟨g_1, r_1, hk, h⟩ := zcallI zy_107 h rfl rfl zy_101 zk_101
    dsimp only at hk h
    refine Or.inr (⟨hc1, ?_⟩)
    refine ⟨g_1, r_1, hk, ?_⟩
    have h := zret zy_107 h rfl rfl
    obtain ⟨e1, e2⟩ := oI h
    have h := hO7
    rw [e1, e2] at h
    clear e1 e2
    clear hO7
    have h := zm zy_315 h 1 (q := (cond (crel .eq r_1 0) 78 74, dset (dset (dset (dset (dset lf 2 (0, (B : Int))) 1 (0, (A : Int))) 0 (4, 0)) 3 (4, 29 + ((A : Int)))) 4 (4, 29 + ((B : Int))), [], g_1)) rfl
    dsimp only at h
    rcases zif_eq h with ⟨hc8, h⟩ | ⟨hc8, h⟩
    · have h := zm zy_315 h 6 (q := (92, dset (dset (dset (dset (dset (dset lf 2 (0, (B : Int))) 1 (0, (A : Int))) 0 (4, 0)) 3 (4, 29 + ((A : Int)))) 4 (4, 29 + ((B : Int)))) 5 (0, 0), [(0, 0), (4, 0)], g_1)) rfl
      dsimp only at h
      obtain ⟨gz9, rz10, hk, h⟩ := zcallI zy_315 h rfl rfl zy_64 zk_64
      dsimp only at hk h
      have hO11 := h
      have h := hk
      clear hk
      have h := zm zy_64 h 4 (q := (6, darg 0 [(4, 0), (0, 0)], [(0, 0)], cup g_1 0 0 0)) rfl
      dsimp only at h
      have h := zret zy_64 h rfl rfl
      obtain ⟨e1, e2⟩ := oI h
      have h := hO11
      rw [e1, e2] at h
      clear e1 e2
      clear hO11
      refine Or.inl (⟨hc8, ?_⟩)
      exact zret zy_315 h rfl rfl
    · have h := zm zy_315 h 8 (q := (92, dset (dset (dset (dset (dset (dset lf 2 (0, (B : Int))) 1 (0, (A : Int))) 0 (4, 0)) 3 (4, 29 + ((A : Int)))) 4 (4, 29 + ((B : Int)))) 5 (0, 1), [(0, 1), (4, 0)], g_1)) rfl
      dsimp only at h
      obtain ⟨gz12, rz13, hk, h⟩ := zcallI zy_315 h rfl rfl zy_64 zk_64
      dsimp only at hk h
      have hO14 := h
      have h := hk
      clear hk
      have h := zm zy_64 h 4 (q := (6, darg 0 [(4, 0), (0, 1)], [(0, 1)], cup g_1 0 0 0)) rfl
      dsimp only at h
      have h := zret zy_64 h rfl rfl
      obtain ⟨e1, e2⟩ := oI h
      have h := hO14
      rw [e1, e2] at h
      clear e1 e2
      clear hO14
      refine Or.inr (⟨hc8, ?_⟩)
      exact zret zy_315 h rfl rfl
theorem m_fts0 {sv : Nat → Int32} {L n : Nat} {lf : dlf} {g : cg} {o : cg × Option cv} {a b : Int} (h : zr sv L n 316 0 lf [] g o) (hl0 : lf 0 = (4, 253)) (hl1 : lf 1 = (0, a)) (hl2 : lf 2 = (0, b)) : (((a < 0) ∨ (0 ≤ a ∧ g 254 2 ≤ a) ∨ (0 ≤ a ∧ a < g 254 2 ∧ b < 0) ∨ (0 ≤ a ∧ a < g 254 2 ∧ 0 ≤ b ∧ g 254 2 ≤ b)) ∧ (o = (cup g 253 2 1, some (0, (-1))))) ∨ ((0 ≤ a ∧ a < g 254 2 ∧ 0 ≤ b ∧ b < g 254 2) ∧ (∃ lf', lf' 0 = (4, 253) ∧ lf' 1 = (0, a) ∧ lf' 2 = (0, b) ∧ zr sv L n 316 22 lf' [] g o)) := by
  rw [zov hl0, zov hl1, zov hl2] at h
  have h := zm zy_316 h 2 (q := (2, dset (dset (dset lf 2 (0, b)) 1 (0, a)) 0 (4, 253), [(0, a), (4, 253)], g)) rfl
  dsimp only at h
  obtain ⟨gz1, rz2, hk, h⟩ := zcallI zy_316 h rfl rfl zy_217 zk_217
  dsimp only at hk h
  have hO3 := h
  have h := hk
  clear hk
  have h := zm zy_217 h 2 (q := (cond (crel .lt a 0) 18 4, darg 0 [(4, 253), (0, a)], [], g)) rfl
  dsimp only at h
  rcases zif_lt h with ⟨hc4, h⟩ | ⟨hc4, h⟩
  · have h := zm zy_217 h 1 (q := (19, darg 0 [(4, 253), (0, a)], [(0, 0)], g)) rfl
    dsimp only at h
    have h := zret zy_217 h rfl rfl
    obtain ⟨e1, e2⟩ := oI h
    have h := hO3
    rw [e1, e2] at h
    clear e1 e2
    clear hO3
    have h := zm zy_316 h 3 (q := (18, dset (dset (dset lf 2 (0, b)) 1 (0, a)) 0 (4, 253), [(0, 1), (4, 253)], g)) rfl
    dsimp only at h
    obtain ⟨gz5, rz6, hk, h⟩ := zcallI zy_316 h rfl rfl zy_170 zk_170
    dsimp only at hk h
    have hO7 := h
    have h := hk
    clear hk
    have h := zm zy_170 h 4 (q := (6, darg 0 [(4, 253), (0, 1)], [(0, (-1))], cup g 253 2 1)) rfl
    dsimp only at h
    have h := zret zy_170 h rfl rfl
    obtain ⟨e1, e2⟩ := oI h
    have h := hO7
    rw [e1, e2] at h
    clear e1 e2
    clear hO7
    refine Or.inl (⟨Or.inl (hc4), ?_⟩)
    exact zret zy_316 h rfl rfl
  · have h := zm zy_217 h 6 (q := (cond (crel .ge a (g 254 2)) 18 14, darg 0 [(4, 253), (0, a)], [], g)) rfl
    dsimp only at h
    rcases zif_ge h with ⟨hc8, h⟩ | ⟨hc8, h⟩
    · have h := zm zy_217 h 1 (q := (19, darg 0 [(4, 253), (0, a)], [(0, 0)], g)) rfl
      dsimp only at h
      have h := zret zy_217 h rfl rfl
      obtain ⟨e1, e2⟩ := oI h
      have h := hO3
      rw [e1, e2] at h
      clear e1 e2
      clear hO3
      have h := zm zy_316 h 3 (q := (18, dset (dset (dset lf 2 (0, b)) 1 (0, a)) 0 (4, 253), [(0, 1), (4, 253)], g)) rfl
      dsimp only at h
      obtain ⟨gz9, rz10, hk, h⟩ := zcallI zy_316 h rfl rfl zy_170 zk_170
      dsimp only at hk h
      have hO11 := h
      have h := hk
      clear hk
      have h := zm zy_170 h 4 (q := (6, darg 0 [(4, 253), (0, 1)], [(0, (-1))], cup g 253 2 1)) rfl
      dsimp only at h
      have h := zret zy_170 h rfl rfl
      obtain ⟨e1, e2⟩ := oI h
      have h := hO11
      rw [e1, e2] at h
      clear e1 e2
      clear hO11
      refine Or.inl (⟨Or.inr (Or.inl (⟨hc4, hc8⟩)), ?_⟩)
      exact zret zy_316 h rfl rfl
    · have h := zm zy_217 h 2 (q := (19, darg 0 [(4, 253), (0, a)], [(0, 1)], g)) rfl
      dsimp only at h
      have h := zret zy_217 h rfl rfl
      obtain ⟨e1, e2⟩ := oI h
      have h := hO3
      rw [e1, e2] at h
      clear e1 e2
      clear hO3
      have h := zm zy_316 h 3 (q := (10, dset (dset (dset lf 2 (0, b)) 1 (0, a)) 0 (4, 253), [(0, b), (4, 253)], g)) rfl
      dsimp only at h
      obtain ⟨gz12, rz13, hk, h⟩ := zcallI zy_316 h rfl rfl zy_217 zk_217
      dsimp only at hk h
      have hO14 := h
      have h := hk
      clear hk
      have h := zm zy_217 h 2 (q := (cond (crel .lt b 0) 18 4, darg 0 [(4, 253), (0, b)], [], g)) rfl
      dsimp only at h
      rcases zif_lt h with ⟨hc15, h⟩ | ⟨hc15, h⟩
      · have h := zm zy_217 h 1 (q := (19, darg 0 [(4, 253), (0, b)], [(0, 0)], g)) rfl
        dsimp only at h
        have h := zret zy_217 h rfl rfl
        obtain ⟨e1, e2⟩ := oI h
        have h := hO14
        rw [e1, e2] at h
        clear e1 e2
        clear hO14
        have h := zm zy_316 h 3 (q := (18, dset (dset (dset lf 2 (0, b)) 1 (0, a)) 0 (4, 253), [(0, 1), (4, 253)], g)) rfl
        dsimp only at h
        obtain ⟨gz16, rz17, hk, h⟩ := zcallI zy_316 h rfl rfl zy_170 zk_170
        dsimp only at hk h
        have hO18 := h
        have h := hk
        clear hk
        have h := zm zy_170 h 4 (q := (6, darg 0 [(4, 253), (0, 1)], [(0, (-1))], cup g 253 2 1)) rfl
        dsimp only at h
        have h := zret zy_170 h rfl rfl
        obtain ⟨e1, e2⟩ := oI h
        have h := hO18
        rw [e1, e2] at h
        clear e1 e2
        clear hO18
        refine Or.inl (⟨Or.inr (Or.inr (Or.inl (⟨hc4, hc8, hc15⟩))), ?_⟩)
        exact zret zy_316 h rfl rfl
      · have h := zm zy_217 h 6 (q := (cond (crel .ge b (g 254 2)) 18 14, darg 0 [(4, 253), (0, b)], [], g)) rfl
        dsimp only at h
        rcases zif_ge h with ⟨hc19, h⟩ | ⟨hc19, h⟩
        · have h := zm zy_217 h 1 (q := (19, darg 0 [(4, 253), (0, b)], [(0, 0)], g)) rfl
          dsimp only at h
          have h := zret zy_217 h rfl rfl
          obtain ⟨e1, e2⟩ := oI h
          have h := hO14
          rw [e1, e2] at h
          clear e1 e2
          clear hO14
          have h := zm zy_316 h 3 (q := (18, dset (dset (dset lf 2 (0, b)) 1 (0, a)) 0 (4, 253), [(0, 1), (4, 253)], g)) rfl
          dsimp only at h
          obtain ⟨gz20, rz21, hk, h⟩ := zcallI zy_316 h rfl rfl zy_170 zk_170
          dsimp only at hk h
          have hO22 := h
          have h := hk
          clear hk
          have h := zm zy_170 h 4 (q := (6, darg 0 [(4, 253), (0, 1)], [(0, (-1))], cup g 253 2 1)) rfl
          dsimp only at h
          have h := zret zy_170 h rfl rfl
          obtain ⟨e1, e2⟩ := oI h
          have h := hO22
          rw [e1, e2] at h
          clear e1 e2
          clear hO22
          refine Or.inl (⟨Or.inr (Or.inr (Or.inr (⟨hc4, hc8, hc15, hc19⟩))), ?_⟩)
          exact zret zy_316 h rfl rfl
        · have h := zm zy_217 h 2 (q := (19, darg 0 [(4, 253), (0, b)], [(0, 1)], g)) rfl
          dsimp only at h
          have h := zret zy_217 h rfl rfl
          obtain ⟨e1, e2⟩ := oI h
          have h := hO14
          rw [e1, e2] at h
          clear e1 e2
          clear hO14
          have h := zm zy_316 h 1 (q := (22, dset (dset (dset lf 2 (0, b)) 1 (0, a)) 0 (4, 253), [], g)) rfl
          dsimp only at h
          refine Or.inr (⟨⟨hc4, hc8, hc15, hc19⟩, ?_⟩)
          exact ⟨_, rfl, rfl, rfl, h⟩
theorem m_fts22 {sv : Nat → Int32} {L n : Nat} {lf : dlf} {g : cg} {o : cg × Option cv} {A B p q t P Q T : Nat} (rA : A ≤ 15) (rB : B ≤ 15) (rp : p ≤ 5) (rq : q ≤ 4) (rt : t ≤ 7) (rP : P ≤ 5) (rQ : Q ≤ 4) (rT : T ≤ 7) (hA1 : g 254 (100 + 8 * A) = (p : Int)) (hA2 : g 254 (101 + 8 * A) = (q : Int)) (hA3 : g 254 (102 + 8 * A) = (t : Int)) (hB1 : g 254 (100 + 8 * B) = (P : Int)) (hB2 : g 254 (101 + 8 * B) = (Q : Int)) (hB3 : g 254 (102 + 8 * B) = (T : Int)) (h : zr sv L n 316 22 lf [] g o) (hl0 : lf 0 = (4, 253)) (hl1 : lf 1 = (0, (A : Int))) (hl2 : lf 2 = (0, (B : Int))) : (((p : Int) ≠ (P : Int)) ∧ (o = (cup g 253 2 0, some (0, 1)))) ∨ (((p : Int) = (P : Int)) ∧ (∃ g_1 r_1, zr sv L n 231 0 (darg 0 [(4, 253), (0, (q : Int)), (0, (t : Int)), (0, (Q : Int)), (0, (T : Int))]) [] g (g_1, some (0, r_1)) ∧ (((r_1 = 0) ∧ (o = (cup g_1 253 2 0, some (0, 0)))) ∨ ((r_1 ≠ 0) ∧ (o = (cup g_1 253 2 0, some (0, 1))))))) := by
  rw [zov hl0, zov hl1, zov hl2] at h
  have h := zm zy_316 h 3 (q := (25, dset (dset (dset lf 2 (0, (B : Int))) 1 (0, (A : Int))) 0 (4, 253), [(0, (A : Int)), (4, 253), (4, 253)], g)) rfl
  dsimp only at h
  obtain ⟨gz1, rz2, hk, h⟩ := zcallI zy_316 h rfl rfl zy_203 zk_203
  dsimp only at hk h
  have hO3 := h
  have h := hk
  clear hk
  have h := zm zy_203 h 3 (q := (5, darg 0 [(4, 253), (0, (A : Int))], [(0, (A : Int)), (4, 254)], g)) rfl
  dsimp only at h
  obtain ⟨gz4, rz5, hk, h⟩ := zcallI zy_203 h rfl rfl zy_199 zk_199
  dsimp only at hk h
  have hO6 := h
  have h := hk
  clear hk
  have h := zm zy_199 h 5 (q := (7, darg 0 [(0, (A : Int))], [(0, w32 (99 + (w32 (8 * ((A : Int))))))], g)) rfl
  dsimp only at h
  try rw [w32_eq (z := 8 * ((A : Int))) (v := 8 * (A : Int)) (by omega) (by omega) (by omega)] at h
  try rw [w32_eq (z := 99 + (8 * (A : Int))) (v := 99 + 8 * (A : Int)) (by omega) (by omega) (by omega)] at h
  have h := zret zy_199 h rfl rfl
  obtain ⟨e1, e2⟩ := oI h
  have h := hO6
  rw [e1, e2] at h
  clear e1 e2
  clear hO6
  have h := zm zy_203 h 2 (q := (10, darg 0 [(4, 253), (0, (A : Int))], [(0, w32 ((99 + 8 * (A : Int)) + 1)), (4, 254)], g)) rfl
  dsimp only at h
  try rw [w32_eq (z := (99 + 8 * (A : Int)) + 1) (v := 100 + 8 * (A : Int)) (by omega) (by omega) (by omega)] at h
  have h := zald zy_203 h rfl rfl (dvb_254 (i := 100 + 8 * (A : Int)) (by omega) (by omega))
  dsimp only at h
  try rw [show (100 + 8 * (A : Int)).toNat = 100 + 8 * A from by omega] at h
  try rw [hA1] at h
  have h := zret zy_203 h rfl rfl
  obtain ⟨e1, e2⟩ := oI h
  have h := hO3
  rw [e1, e2] at h
  clear e1 e2
  clear hO3
  have h := zm zy_316 h 2 (q := (30, dset (dset (dset lf 2 (0, (B : Int))) 1 (0, (A : Int))) 0 (4, 253), [(0, (B : Int)), (4, 253), (0, (p : Int)), (4, 253)], g)) rfl
  dsimp only at h
  obtain ⟨gz7, rz8, hk, h⟩ := zcallI zy_316 h rfl rfl zy_203 zk_203
  dsimp only at hk h
  have hO9 := h
  have h := hk
  clear hk
  have h := zm zy_203 h 3 (q := (5, darg 0 [(4, 253), (0, (B : Int))], [(0, (B : Int)), (4, 254)], g)) rfl
  dsimp only at h
  obtain ⟨gz10, rz11, hk, h⟩ := zcallI zy_203 h rfl rfl zy_199 zk_199
  dsimp only at hk h
  have hO12 := h
  have h := hk
  clear hk
  have h := zm zy_199 h 5 (q := (7, darg 0 [(0, (B : Int))], [(0, w32 (99 + (w32 (8 * ((B : Int))))))], g)) rfl
  dsimp only at h
  try rw [w32_eq (z := 8 * ((B : Int))) (v := 8 * (B : Int)) (by omega) (by omega) (by omega)] at h
  try rw [w32_eq (z := 99 + (8 * (B : Int))) (v := 99 + 8 * (B : Int)) (by omega) (by omega) (by omega)] at h
  have h := zret zy_199 h rfl rfl
  obtain ⟨e1, e2⟩ := oI h
  have h := hO12
  rw [e1, e2] at h
  clear e1 e2
  clear hO12
  have h := zm zy_203 h 2 (q := (10, darg 0 [(4, 253), (0, (B : Int))], [(0, w32 ((99 + 8 * (B : Int)) + 1)), (4, 254)], g)) rfl
  dsimp only at h
  try rw [w32_eq (z := (99 + 8 * (B : Int)) + 1) (v := 100 + 8 * (B : Int)) (by omega) (by omega) (by omega)] at h
  have h := zald zy_203 h rfl rfl (dvb_254 (i := 100 + 8 * (B : Int)) (by omega) (by omega))
  dsimp only at h
  try rw [show (100 + 8 * (B : Int)).toNat = 100 + 8 * B from by omega] at h
  try rw [hB1] at h
  have h := zret zy_203 h rfl rfl
  obtain ⟨e1, e2⟩ := oI h
  have h := hO9
  rw [e1, e2] at h
  clear e1 e2
  clear hO9
  have h := zm zy_316 h 1 (q := (cond (crel .ne ((p : Int)) ((P : Int))) 45 36, dset (dset (dset lf 2 (0, (B : Int))) 1 (0, (A : Int))) 0 (4, 253), [(4, 253)], g)) rfl
  dsimp only at h
  rcases zif_ne h with ⟨hc13, h⟩ | ⟨hc13, h⟩
  · have h := zm zy_316 h 2 (q := (50, dset (dset (dset lf 2 (0, (B : Int))) 1 (0, (A : Int))) 0 (4, 253), [(0, 1), (4, 253)], g)) rfl
    dsimp only at h
    obtain ⟨gz14, rz15, hk, h⟩ := zcallI zy_316 h rfl rfl zy_192 zk_192
    dsimp only at hk h
    have hO16 := h
    have h := hk
    clear hk
    have h := zm zy_192 h 4 (q := (6, darg 0 [(4, 253), (0, 1)], [(0, 1)], cup g 253 2 0)) rfl
    dsimp only at h
    have h := zret zy_192 h rfl rfl
    obtain ⟨e1, e2⟩ := oI h
    have h := hO16
    rw [e1, e2] at h
    clear e1 e2
    clear hO16
    refine Or.inl (⟨hc13, ?_⟩)
    exact zret zy_316 h rfl rfl
  · have h := zm zy_316 h 3 (q := (39, dset (dset (dset lf 2 (0, (B : Int))) 1 (0, (A : Int))) 0 (4, 253), [(0, (B : Int)), (0, (A : Int)), (4, 253), (4, 253)], g)) rfl
    dsimp only at h
    obtain ⟨gz17, rz18, hk, h⟩ := zcallI zy_316 h rfl rfl zy_230 zk_230
    dsimp only at hk h
    have hO19 := h
    have h := hk
    clear hk
    have h := zm zy_230 h 3 (q := (3, darg 0 [(4, 253), (0, (A : Int)), (0, (B : Int))], [(0, (A : Int)), (4, 253), (4, 253)], g)) rfl
    dsimp only at h
    obtain ⟨gz20, rz21, hk, h⟩ := zcallI zy_230 h rfl rfl zy_206 zk_206
    dsimp only at hk h
    have hO22 := h
    have h := hk
    clear hk
    have h := zm zy_206 h 3 (q := (5, darg 0 [(4, 253), (0, (A : Int))], [(0, (A : Int)), (4, 254)], g)) rfl
    dsimp only at h
    obtain ⟨gz23, rz24, hk, h⟩ := zcallI zy_206 h rfl rfl zy_199 zk_199
    dsimp only at hk h
    have hO25 := h
    have h := hk
    clear hk
    have h := zm zy_199 h 5 (q := (7, darg 0 [(0, (A : Int))], [(0, w32 (99 + (w32 (8 * ((A : Int))))))], g)) rfl
    dsimp only at h
    try rw [w32_eq (z := 8 * ((A : Int))) (v := 8 * (A : Int)) (by omega) (by omega) (by omega)] at h
    try rw [w32_eq (z := 99 + (8 * (A : Int))) (v := 99 + 8 * (A : Int)) (by omega) (by omega) (by omega)] at h
    have h := zret zy_199 h rfl rfl
    obtain ⟨e1, e2⟩ := oI h
    have h := hO25
    rw [e1, e2] at h
    clear e1 e2
    clear hO25
    have h := zm zy_206 h 2 (q := (10, darg 0 [(4, 253), (0, (A : Int))], [(0, w32 ((99 + 8 * (A : Int)) + 2)), (4, 254)], g)) rfl
    dsimp only at h
    try rw [w32_eq (z := (99 + 8 * (A : Int)) + 2) (v := 101 + 8 * (A : Int)) (by omega) (by omega) (by omega)] at h
    have h := zald zy_206 h rfl rfl (dvb_254 (i := 101 + 8 * (A : Int)) (by omega) (by omega))
    dsimp only at h
    try rw [show (101 + 8 * (A : Int)).toNat = 101 + 8 * A from by omega] at h
    try rw [hA2] at h
    have h := zret zy_206 h rfl rfl
    obtain ⟨e1, e2⟩ := oI h
    have h := hO22
    rw [e1, e2] at h
    clear e1 e2
    clear hO22
    have h := zm zy_230 h 2 (q := (8, darg 0 [(4, 253), (0, (A : Int)), (0, (B : Int))], [(0, (A : Int)), (4, 253), (0, (q : Int)), (4, 253)], g)) rfl
    dsimp only at h
    obtain ⟨gz26, rz27, hk, h⟩ := zcallI zy_230 h rfl rfl zy_204 zk_204
    dsimp only at hk h
    have hO28 := h
    have h := hk
    clear hk
    have h := zm zy_204 h 3 (q := (5, darg 0 [(4, 253), (0, (A : Int))], [(0, (A : Int)), (4, 254)], g)) rfl
    dsimp only at h
    obtain ⟨gz29, rz30, hk, h⟩ := zcallI zy_204 h rfl rfl zy_199 zk_199
    dsimp only at hk h
    have hO31 := h
    have h := hk
    clear hk
    have h := zm zy_199 h 5 (q := (7, darg 0 [(0, (A : Int))], [(0, w32 (99 + (w32 (8 * ((A : Int))))))], g)) rfl
    dsimp only at h
    try rw [w32_eq (z := 8 * ((A : Int))) (v := 8 * (A : Int)) (by omega) (by omega) (by omega)] at h
    try rw [w32_eq (z := 99 + (8 * (A : Int))) (v := 99 + 8 * (A : Int)) (by omega) (by omega) (by omega)] at h
    have h := zret zy_199 h rfl rfl
    obtain ⟨e1, e2⟩ := oI h
    have h := hO31
    rw [e1, e2] at h
    clear e1 e2
    clear hO31
    have h := zm zy_204 h 2 (q := (10, darg 0 [(4, 253), (0, (A : Int))], [(0, w32 ((99 + 8 * (A : Int)) + 3)), (4, 254)], g)) rfl
    dsimp only at h
    try rw [w32_eq (z := (99 + 8 * (A : Int)) + 3) (v := 102 + 8 * (A : Int)) (by omega) (by omega) (by omega)] at h
    have h := zald zy_204 h rfl rfl (dvb_254 (i := 102 + 8 * (A : Int)) (by omega) (by omega))
    dsimp only at h
    try rw [show (102 + 8 * (A : Int)).toNat = 102 + 8 * A from by omega] at h
    try rw [hA3] at h
    have h := zret zy_204 h rfl rfl
    obtain ⟨e1, e2⟩ := oI h
    have h := hO28
    rw [e1, e2] at h
    clear e1 e2
    clear hO28
    have h := zm zy_230 h 2 (q := (13, darg 0 [(4, 253), (0, (A : Int)), (0, (B : Int))], [(0, (B : Int)), (4, 253), (0, (t : Int)), (0, (q : Int)), (4, 253)], g)) rfl
    dsimp only at h
    obtain ⟨gz32, rz33, hk, h⟩ := zcallI zy_230 h rfl rfl zy_206 zk_206
    dsimp only at hk h
    have hO34 := h
    have h := hk
    clear hk
    have h := zm zy_206 h 3 (q := (5, darg 0 [(4, 253), (0, (B : Int))], [(0, (B : Int)), (4, 254)], g)) rfl
    dsimp only at h
    obtain ⟨gz35, rz36, hk, h⟩ := zcallI zy_206 h rfl rfl zy_199 zk_199
    dsimp only at hk h
    have hO37 := h
    have h := hk
    clear hk
    have h := zm zy_199 h 5 (q := (7, darg 0 [(0, (B : Int))], [(0, w32 (99 + (w32 (8 * ((B : Int))))))], g)) rfl
    dsimp only at h
    try rw [w32_eq (z := 8 * ((B : Int))) (v := 8 * (B : Int)) (by omega) (by omega) (by omega)] at h
    try rw [w32_eq (z := 99 + (8 * (B : Int))) (v := 99 + 8 * (B : Int)) (by omega) (by omega) (by omega)] at h
    have h := zret zy_199 h rfl rfl
    obtain ⟨e1, e2⟩ := oI h
    have h := hO37
    rw [e1, e2] at h
    clear e1 e2
    clear hO37
    have h := zm zy_206 h 2 (q := (10, darg 0 [(4, 253), (0, (B : Int))], [(0, w32 ((99 + 8 * (B : Int)) + 2)), (4, 254)], g)) rfl
    dsimp only at h
    try rw [w32_eq (z := (99 + 8 * (B : Int)) + 2) (v := 101 + 8 * (B : Int)) (by omega) (by omega) (by omega)] at h
    have h := zald zy_206 h rfl rfl (dvb_254 (i := 101 + 8 * (B : Int)) (by omega) (by omega))
    dsimp only at h
    try rw [show (101 + 8 * (B : Int)).toNat = 101 + 8 * B from by omega] at h
    try rw [hB2] at h
    have h := zret zy_206 h rfl rfl
    obtain ⟨e1, e2⟩ := oI h
    have h := hO34
    rw [e1, e2] at h
    clear e1 e2
    clear hO34
    have h := zm zy_230 h 2 (q := (18, darg 0 [(4, 253), (0, (A : Int)), (0, (B : Int))], [(0, (B : Int)), (4, 253), (0, (Q : Int)), (0, (t : Int)), (0, (q : Int)), (4, 253)], g)) rfl
    dsimp only at h
    obtain ⟨gz38, rz39, hk, h⟩ := zcallI zy_230 h rfl rfl zy_204 zk_204
    dsimp only at hk h
    have hO40 := h
    have h := hk
    clear hk
    have h := zm zy_204 h 3 (q := (5, darg 0 [(4, 253), (0, (B : Int))], [(0, (B : Int)), (4, 254)], g)) rfl
    dsimp only at h
    obtain ⟨gz41, rz42, hk, h⟩ := zcallI zy_204 h rfl rfl zy_199 zk_199
    dsimp only at hk h
    have hO43 := h
    have h := hk
    clear hk
    have h := zm zy_199 h 5 (q := (7, darg 0 [(0, (B : Int))], [(0, w32 (99 + (w32 (8 * ((B : Int))))))], g)) rfl
    dsimp only at h
    try rw [w32_eq (z := 8 * ((B : Int))) (v := 8 * (B : Int)) (by omega) (by omega) (by omega)] at h
    try rw [w32_eq (z := 99 + (8 * (B : Int))) (v := 99 + 8 * (B : Int)) (by omega) (by omega) (by omega)] at h
    have h := zret zy_199 h rfl rfl
    obtain ⟨e1, e2⟩ := oI h
    have h := hO43
    rw [e1, e2] at h
    clear e1 e2
    clear hO43
    have h := zm zy_204 h 2 (q := (10, darg 0 [(4, 253), (0, (B : Int))], [(0, w32 ((99 + 8 * (B : Int)) + 3)), (4, 254)], g)) rfl
    dsimp only at h
    try rw [w32_eq (z := (99 + 8 * (B : Int)) + 3) (v := 102 + 8 * (B : Int)) (by omega) (by omega) (by omega)] at h
    have h := zald zy_204 h rfl rfl (dvb_254 (i := 102 + 8 * (B : Int)) (by omega) (by omega))
    dsimp only at h
    try rw [show (102 + 8 * (B : Int)).toNat = 102 + 8 * B from by omega] at h
    try rw [hB3] at h
    have h := zret zy_204 h rfl rfl
    obtain ⟨e1, e2⟩ := oI h
    have h := hO40
    rw [e1, e2] at h
    clear e1 e2
    clear hO40
    obtain ⟨g_1, r_1, hk, h⟩ := zcallI zy_230 h rfl rfl zy_231 zk_231
    dsimp only at hk h
    refine Or.inr (⟨hc13, ?_⟩)
    refine ⟨g_1, r_1, hk, ?_⟩
    have h := zret zy_230 h rfl rfl
    obtain ⟨e1, e2⟩ := oI h
    have h := hO19
    rw [e1, e2] at h
    clear e1 e2
    clear hO19
    have h := zm zy_316 h 1 (q := (cond (crel .eq r_1 0) 49 45, dset (dset (dset lf 2 (0, (B : Int))) 1 (0, (A : Int))) 0 (4, 253), [(4, 253)], g_1)) rfl
    dsimp only at h
    rcases zif_eq h with ⟨hc44, h⟩ | ⟨hc44, h⟩
    · have h := zm zy_316 h 1 (q := (50, dset (dset (dset lf 2 (0, (B : Int))) 1 (0, (A : Int))) 0 (4, 253), [(0, 0), (4, 253)], g_1)) rfl
      dsimp only at h
      obtain ⟨gz45, rz46, hk, h⟩ := zcallI zy_316 h rfl rfl zy_192 zk_192
      dsimp only at hk h
      have hO47 := h
      have h := hk
      clear hk
      have h := zm zy_192 h 4 (q := (6, darg 0 [(4, 253), (0, 0)], [(0, 0)], cup g_1 253 2 0)) rfl
      dsimp only at h
      have h := zret zy_192 h rfl rfl
      obtain ⟨e1, e2⟩ := oI h
      have h := hO47
      rw [e1, e2] at h
      clear e1 e2
      clear hO47
      refine Or.inl (⟨hc44, ?_⟩)
      exact zret zy_316 h rfl rfl
    · have h := zm zy_316 h 2 (q := (50, dset (dset (dset lf 2 (0, (B : Int))) 1 (0, (A : Int))) 0 (4, 253), [(0, 1), (4, 253)], g_1)) rfl
      dsimp only at h
      obtain ⟨gz48, rz49, hk, h⟩ := zcallI zy_316 h rfl rfl zy_192 zk_192
      dsimp only at hk h
      have hO50 := h
      have h := hk
      clear hk
      have h := zm zy_192 h 4 (q := (6, darg 0 [(4, 253), (0, 1)], [(0, 1)], cup g_1 253 2 0)) rfl
      dsimp only at h
      have h := zret zy_192 h rfl rfl
      obtain ⟨e1, e2⟩ := oI h
      have h := hO50
      rw [e1, e2] at h
      clear e1 e2
      clear hO50
      refine Or.inr (⟨hc44, ?_⟩)
      exact zret zy_316 h rfl rfl
theorem t_cla {sv : Nat → Int32} {L n : Nat} {lf : dlf} {g : cg} {o : cg × Option cv} {a : Int} (h : zr sv L n 329 0 lf [] g o) (hl0 : lf 0 = (4, 0)) (hl1 : lf 1 = (0, a)) : (((a < 0) ∨ (0 ≤ a ∧ g 3 3 ≤ a)) ∧ (o = (cup g 0 0 1, some (0, (-1))))) ∨ ((0 ≤ a ∧ a < g 3 3) ∧ (∃ g_1 r_1, zr sv L n 123 0 (darg 0 [(4, 3), (0, a)]) [] g (g_1, some (0, r_1)) ∧ (o = (cup g_1 0 0 0, some (0, r_1))))) := by
  rw [zov hl0, zov hl1] at h
  have h := zm zy_329 h 3 (q := (5, dset (dset lf 1 (0, a)) 0 (4, 0), [(0, a), (4, 3)], g)) rfl
  dsimp only at h
  obtain ⟨gz1, rz2, hk, h⟩ := zcallI zy_329 h rfl rfl zy_81 zk_81
  dsimp only at hk h
  have hO3 := h
  have h := hk
  clear hk
  have h := zm zy_81 h 2 (q := (cond (crel .lt a 0) 16 4, darg 0 [(4, 3), (0, a)], [], g)) rfl
  dsimp only at h
  rcases zif_lt h with ⟨hc4, h⟩ | ⟨hc4, h⟩
  · have h := zm zy_81 h 1 (q := (17, darg 0 [(4, 3), (0, a)], [(0, 0)], g)) rfl
    dsimp only at h
    have h := zret zy_81 h rfl rfl
    obtain ⟨e1, e2⟩ := oI h
    have h := hO3
    rw [e1, e2] at h
    clear e1 e2
    clear hO3
    have h := zm zy_329 h 3 (q := (28, dset (dset lf 1 (0, a)) 0 (4, 0), [(0, 1), (4, 0)], g)) rfl
    dsimp only at h
    obtain ⟨gz5, rz6, hk, h⟩ := zcallI zy_329 h rfl rfl zy_29 zk_29
    dsimp only at hk h
    have hO7 := h
    have h := hk
    clear hk
    have h := zm zy_29 h 4 (q := (6, darg 0 [(4, 0), (0, 1)], [(0, (-1))], cup g 0 0 1)) rfl
    dsimp only at h
    have h := zret zy_29 h rfl rfl
    obtain ⟨e1, e2⟩ := oI h
    have h := hO7
    rw [e1, e2] at h
    clear e1 e2
    clear hO7
    refine Or.inl (⟨Or.inl (hc4), ?_⟩)
    exact zret zy_329 h rfl rfl
  · have h := zm zy_81 h 4 (q := (cond (crel .ge a (g 3 3)) 16 12, darg 0 [(4, 3), (0, a)], [], g)) rfl
    dsimp only at h
    rcases zif_ge h with ⟨hc8, h⟩ | ⟨hc8, h⟩
    · have h := zm zy_81 h 1 (q := (17, darg 0 [(4, 3), (0, a)], [(0, 0)], g)) rfl
      dsimp only at h
      have h := zret zy_81 h rfl rfl
      obtain ⟨e1, e2⟩ := oI h
      have h := hO3
      rw [e1, e2] at h
      clear e1 e2
      clear hO3
      have h := zm zy_329 h 3 (q := (28, dset (dset lf 1 (0, a)) 0 (4, 0), [(0, 1), (4, 0)], g)) rfl
      dsimp only at h
      obtain ⟨gz9, rz10, hk, h⟩ := zcallI zy_329 h rfl rfl zy_29 zk_29
      dsimp only at hk h
      have hO11 := h
      have h := hk
      clear hk
      have h := zm zy_29 h 4 (q := (6, darg 0 [(4, 0), (0, 1)], [(0, (-1))], cup g 0 0 1)) rfl
      dsimp only at h
      have h := zret zy_29 h rfl rfl
      obtain ⟨e1, e2⟩ := oI h
      have h := hO11
      rw [e1, e2] at h
      clear e1 e2
      clear hO11
      refine Or.inl (⟨Or.inr (⟨hc4, hc8⟩), ?_⟩)
      exact zret zy_329 h rfl rfl
    · have h := zm zy_81 h 2 (q := (17, darg 0 [(4, 3), (0, a)], [(0, 1)], g)) rfl
      dsimp only at h
      have h := zret zy_81 h rfl rfl
      obtain ⟨e1, e2⟩ := oI h
      have h := hO3
      rw [e1, e2] at h
      clear e1 e2
      clear hO3
      have h := zm zy_329 h 5 (q := (17, dset (dset lf 1 (0, a)) 0 (4, 0), [(0, a), (4, 3), (4, 0)], g)) rfl
      dsimp only at h
      obtain ⟨g_1, r_1, hk, h⟩ := zcallI zy_329 h rfl rfl zy_123 zk_123
      dsimp only at hk h
      refine Or.inr (⟨⟨hc4, hc8⟩, ?_⟩)
      refine ⟨g_1, r_1, hk, ?_⟩
      obtain ⟨gz12, rz13, hk, h⟩ := zcallI zy_329 h rfl rfl zy_64 zk_64
      dsimp only at hk h
      have hO14 := h
      have h := hk
      clear hk
      have h := zm zy_64 h 4 (q := (6, darg 0 [(4, 0), (0, r_1)], [(0, r_1)], cup g_1 0 0 0)) rfl
      dsimp only at h
      have h := zret zy_64 h rfl rfl
      obtain ⟨e1, e2⟩ := oI h
      have h := hO14
      rw [e1, e2] at h
      clear e1 e2
      clear hO14
      have h := zm zy_329 h 1 (q := (31, dset (dset lf 1 (0, a)) 0 (4, 0), [(0, r_1)], cup g_1 0 0 0)) rfl
      dsimp only at h
      exact zret zy_329 h rfl rfl
theorem t_clo0 {sv : Nat → Int32} {L n : Nat} {lf : dlf} {g : cg} {o : cg × Option cv} {Z : Nat} (rZ : Z ≤ 5) (h : zr sv L n 123 0 lf [] g o) (hl0 : lf 0 = (4, 3)) (hl1 : lf 1 = (0, (Z : Int))) : ∃ lf', lf' 0 = (4, 3) ∧ lf' 1 = (0, (Z : Int)) ∧ lf' 2 = (0, 0) ∧ lf' 3 = (0, 0) ∧ zr sv L n 123 4 lf' [] g o := by
  rw [zov hl0, zov hl1] at h
  have h := zm zy_123 h 4 (q := (4, dset (dset (dset (dset lf 1 (0, (Z : Int))) 0 (4, 3)) 2 (0, 0)) 3 (0, 0), [], g)) rfl
  dsimp only at h
  exact ⟨_, rfl, rfl, rfl, rfl, h⟩
theorem t_clo_o {sv : Nat → Int32} {L n : Nat} {lf : dlf} {g : cg} {o : cg × Option cv} {Z m k N : Nat} (rZ : Z ≤ 5) (rm : m ≤ 300) (rk : k ≤ 15) (rN : N ≤ 16) (hN : g 3 9 = (N : Int)) (hlt : k < N) (h : zr sv L (n + 1) 123 4 lf [] g o) (hl0 : lf 0 = (4, 3)) (hl1 : lf 1 = (0, (Z : Int))) (hl2 : lf 2 = (0, (m : Int))) (hl3 : lf 3 = (0, (k : Int))) : ∃ lf', lf' 0 = (4, 3) ∧ lf' 1 = (0, (Z : Int)) ∧ lf' 2 = (0, (m : Int)) ∧ lf' 3 = (0, (k : Int)) ∧ lf' 4 = (0, 1 + (k : Int)) ∧ zr sv L n 123 17 lf' [] g o := by
  rw [zov hl0, zov hl1, zov hl2, zov hl3] at h
  have h := zm1 zy_123 h 3 (q := (cond (crel .ge ((k : Int)) (g 3 9)) 88 12, dset (dset (dset (dset lf 3 (0, (k : Int))) 2 (0, (m : Int))) 1 (0, (Z : Int))) 0 (4, 3), [], g)) rfl
  dsimp only at h
  try rw [hN] at h
  rcases zif_ge h with ⟨hc1, h⟩ | ⟨hc1, h⟩
  · exact absurd hc1 (by omega)
  · have h := zm zy_123 h 4 (q := (17, dset (dset (dset (dset (dset lf 3 (0, (k : Int))) 2 (0, (m : Int))) 1 (0, (Z : Int))) 0 (4, 3)) 4 (0, w32 (((k : Int)) + 1)), [], g)) rfl
    dsimp only at h
    try rw [w32_eq (z := ((k : Int)) + 1) (v := 1 + (k : Int)) (by omega) (by omega) (by omega)] at h
    exact ⟨_, rfl, rfl, rfl, rfl, rfl, h⟩
theorem t_clo_x {sv : Nat → Int32} {L n : Nat} {lf : dlf} {g : cg} {o : cg × Option cv} {Z m k N : Nat} (rZ : Z ≤ 5) (rm : m ≤ 300) (rk : k ≤ 16) (rN : N ≤ 16) (hN : g 3 9 = (N : Int)) (hge : N ≤ k) (h : zr sv L (n + 1) 123 4 lf [] g o) (hl0 : lf 0 = (4, 3)) (hl1 : lf 1 = (0, (Z : Int))) (hl2 : lf 2 = (0, (m : Int))) (hl3 : lf 3 = (0, (k : Int))) : o = (g, some (0, (m : Int))) := by
  rw [zov hl0, zov hl1, zov hl2, zov hl3] at h
  have h := zm1 zy_123 h 3 (q := (cond (crel .ge ((k : Int)) (g 3 9)) 88 12, dset (dset (dset (dset lf 3 (0, (k : Int))) 2 (0, (m : Int))) 1 (0, (Z : Int))) 0 (4, 3), [], g)) rfl
  dsimp only at h
  try rw [hN] at h
  rcases zif_ge h with ⟨hc1, h⟩ | ⟨hc1, h⟩
  · have h := zm zy_123 h 1 (q := (89, dset (dset (dset (dset lf 3 (0, (k : Int))) 2 (0, (m : Int))) 1 (0, (Z : Int))) 0 (4, 3), [(0, (m : Int))], g)) rfl
    dsimp only at h
    exact zret zy_123 h rfl rfl
  · exact absurd hc1 (by omega)
theorem t_clo_s {sv : Nat → Int32} {L n : Nat} {lf : dlf} {g : cg} {o : cg × Option cv} {k j N m Z p q t P Q T : Nat} {s S : Int} (rk : k ≤ 15) (rj : j ≤ 15) (rN : N ≤ 16) (rm : m ≤ 300) (rZ : Z ≤ 5) (rp : p ≤ 5) (rq : q ≤ 4) (rt : t ≤ 7) (rP : P ≤ 5) (rQ : Q ≤ 4) (rT : T ≤ 7) (hN : g 3 9 = (N : Int)) (hA1 : g (29 + k) 1 = (p : Int)) (hA2 : g (29 + k) 2 = (q : Int)) (hA3 : g (29 + k) 3 = (t : Int)) (hA5 : g (29 + k) 5 = s) (hB1 : g (29 + j) 1 = (P : Int)) (hB2 : g (29 + j) 2 = (Q : Int)) (hB3 : g (29 + j) 3 = (T : Int)) (hB5 : g (29 + j) 5 = S) (hlt : j < N) (h : zr sv L (n + 1) 123 17 lf [] g o) (hl0 : lf 0 = (4, 3)) (hl1 : lf 1 = (0, (Z : Int))) (hl2 : lf 2 = (0, (m : Int))) (hl3 : lf 3 = (0, (k : Int))) (hl4 : lf 4 = (0, (j : Int))) : (((s ≠ 0) ∨ (s = 0 ∧ (p : Int) ≠ (Z : Int))) ∧ (∃ lf', lf' 0 = (4, 3) ∧ lf' 1 = (0, (Z : Int)) ∧ lf' 2 = (0, (m : Int)) ∧ lf' 3 = (0, 1 + (k : Int)) ∧ zr sv L n 123 4 lf' [] g o)) ∨ (((s = 0 ∧ (p : Int) = (Z : Int) ∧ S ≠ 0) ∨ (s = 0 ∧ (p : Int) = (Z : Int) ∧ S = 0 ∧ (P : Int) ≠ (Z : Int))) ∧ (∃ lf', lf' 0 = (4, 3) ∧ lf' 1 = (0, (Z : Int)) ∧ lf' 2 = (0, (m : Int)) ∧ lf' 3 = (0, (k : Int)) ∧ lf' 4 = (0, 1 + (j : Int)) ∧ zr sv L n 123 17 lf' [] g o)) ∨ ((s = 0 ∧ (p : Int) = (Z : Int) ∧ S = 0 ∧ (P : Int) = (Z : Int)) ∧ (∃ g_1 r_1, zr sv L n 101 0 (darg 0 [(4, 3), (0, (q : Int)), (0, (t : Int)), (0, (Q : Int)), (0, (T : Int))]) [] g (g_1, some (0, r_1)) ∧ (((r_1 ≠ 0) ∧ (∃ lf', lf' 0 = (4, 3) ∧ lf' 1 = (0, (Z : Int)) ∧ lf' 2 = (0, (m : Int)) ∧ lf' 3 = (0, (k : Int)) ∧ lf' 4 = (0, 1 + (j : Int)) ∧ zr sv L n 123 17 lf' [] g_1 o)) ∨ ((r_1 = 0) ∧ (∃ lf', lf' 0 = (4, 3) ∧ lf' 1 = (0, (Z : Int)) ∧ lf' 2 = (0, 1 + (m : Int)) ∧ lf' 3 = (0, (k : Int)) ∧ lf' 4 = (0, 1 + (j : Int)) ∧ zr sv L n 123 17 lf' [] g_1 o))))) := by
  rw [zov hl0, zov hl1, zov hl2, zov hl3, zov hl4] at h
  have h := zm1 zy_123 h 3 (q := (cond (crel .ge ((j : Int)) (g 3 9)) 82 26, dset (dset (dset (dset (dset lf 4 (0, (j : Int))) 3 (0, (k : Int))) 2 (0, (m : Int))) 1 (0, (Z : Int))) 0 (4, 3), [], g)) rfl
  dsimp only at h
  try rw [hN] at h
  rcases zif_ge h with ⟨hc1, h⟩ | ⟨hc1, h⟩
  · exact absurd hc1 (by omega)
  · have h := zm zy_123 h 3 (q := (31, dset (dset (dset (dset (dset lf 4 (0, (j : Int))) 3 (0, (k : Int))) 2 (0, (m : Int))) 1 (0, (Z : Int))) 0 (4, 3), [(0, (k : Int)), (4, 7)], g)) rfl
    dsimp only at h
    have h := zald zy_123 h rfl rfl (dvp_7 (i := (k : Int)) (by omega) (by omega))
    dsimp only at h
    have h := zm zy_123 h 1 (q := (33, dset (dset (dset (dset (dset lf 4 (0, (j : Int))) 3 (0, (k : Int))) 2 (0, (m : Int))) 1 (0, (Z : Int))) 0 (4, 3), [(0, (Z : Int)), (4, 29 + ((k : Int)))], g)) rfl
    dsimp only at h
    obtain ⟨gz2, rz3, hk, h⟩ := zcallI zy_123 h rfl rfl zy_92 zk_92
    dsimp only at hk h
    have hO4 := h
    have h := hk
    clear hk
    have h := zm zy_92 h 1 (q := (1, darg 0 [(4, 29 + ((k : Int))), (0, (Z : Int))], [(4, 29 + ((k : Int)))], g)) rfl
    dsimp only at h
    have h := zgf zy_92 h rfl rfl (dvf_29_5 (i := (k : Int)) (by omega) (by omega))
    dsimp only at h
    try rw [show (29 + ((k : Int))).toNat = 29 + k from by omega] at h
    try rw [hA5] at h
    have h := zm zy_92 h 1 (q := (cond (crel .ne s 0) 19 7, darg 0 [(4, 29 + ((k : Int))), (0, (Z : Int))], [], g)) rfl
    dsimp only at h
    rcases zif_ne h with ⟨hc5, h⟩ | ⟨hc5, h⟩
    · have h := zm zy_92 h 1 (q := (20, darg 0 [(4, 29 + ((k : Int))), (0, (Z : Int))], [(0, 0)], g)) rfl
      dsimp only at h
      have h := zret zy_92 h rfl rfl
      obtain ⟨e1, e2⟩ := oI h
      have h := hO4
      rw [e1, e2] at h
      clear e1 e2
      clear hO4
      have h := zm zy_123 h 3 (q := (4, dset (dset (dset (dset (dset (dset lf 4 (0, (j : Int))) 3 (0, (k : Int))) 2 (0, (m : Int))) 1 (0, (Z : Int))) 0 (4, 3)) 3 (0, w32 (((k : Int)) + 1)), [], g)) rfl
      dsimp only at h
      try rw [w32_eq (z := ((k : Int)) + 1) (v := 1 + (k : Int)) (by omega) (by omega) (by omega)] at h
      refine Or.inl (⟨Or.inl (hc5), ?_⟩)
      exact ⟨_, rfl, rfl, rfl, rfl, h⟩
    · have h := zm zy_92 h 1 (q := (8, darg 0 [(4, 29 + ((k : Int))), (0, (Z : Int))], [(4, 29 + ((k : Int)))], g)) rfl
      dsimp only at h
      have h := zgf zy_92 h rfl rfl (dvf_29_1 (i := (k : Int)) (by omega) (by omega))
      dsimp only at h
      try rw [show (29 + ((k : Int))).toNat = 29 + k from by omega] at h
      try rw [hA1] at h
      have h := zm zy_92 h 2 (q := (cond (crel .ne ((p : Int)) ((Z : Int))) 19 15, darg 0 [(4, 29 + ((k : Int))), (0, (Z : Int))], [], g)) rfl
      dsimp only at h
      rcases zif_ne h with ⟨hc7, h⟩ | ⟨hc7, h⟩
      · have h := zm zy_92 h 1 (q := (20, darg 0 [(4, 29 + ((k : Int))), (0, (Z : Int))], [(0, 0)], g)) rfl
        dsimp only at h
        have h := zret zy_92 h rfl rfl
        obtain ⟨e1, e2⟩ := oI h
        have h := hO4
        rw [e1, e2] at h
        clear e1 e2
        clear hO4
        have h := zm zy_123 h 3 (q := (4, dset (dset (dset (dset (dset (dset lf 4 (0, (j : Int))) 3 (0, (k : Int))) 2 (0, (m : Int))) 1 (0, (Z : Int))) 0 (4, 3)) 3 (0, w32 (((k : Int)) + 1)), [], g)) rfl
        dsimp only at h
        try rw [w32_eq (z := ((k : Int)) + 1) (v := 1 + (k : Int)) (by omega) (by omega) (by omega)] at h
        refine Or.inl (⟨Or.inr (⟨hc5, hc7⟩), ?_⟩)
        exact ⟨_, rfl, rfl, rfl, rfl, h⟩
      · have h := zm zy_92 h 2 (q := (20, darg 0 [(4, 29 + ((k : Int))), (0, (Z : Int))], [(0, 1)], g)) rfl
        dsimp only at h
        have h := zret zy_92 h rfl rfl
        obtain ⟨e1, e2⟩ := oI h
        have h := hO4
        rw [e1, e2] at h
        clear e1 e2
        clear hO4
        have h := zm zy_123 h 4 (q := (45, dset (dset (dset (dset (dset lf 4 (0, (j : Int))) 3 (0, (k : Int))) 2 (0, (m : Int))) 1 (0, (Z : Int))) 0 (4, 3), [(0, (j : Int)), (4, 7)], g)) rfl
        dsimp only at h
        have h := zald zy_123 h rfl rfl (dvp_7 (i := (j : Int)) (by omega) (by omega))
        dsimp only at h
        have h := zm zy_123 h 1 (q := (47, dset (dset (dset (dset (dset lf 4 (0, (j : Int))) 3 (0, (k : Int))) 2 (0, (m : Int))) 1 (0, (Z : Int))) 0 (4, 3), [(0, (Z : Int)), (4, 29 + ((j : Int)))], g)) rfl
        dsimp only at h
        obtain ⟨gz9, rz10, hk, h⟩ := zcallI zy_123 h rfl rfl zy_92 zk_92
        dsimp only at hk h
        have hO11 := h
        have h := hk
        clear hk
        have h := zm zy_92 h 1 (q := (1, darg 0 [(4, 29 + ((j : Int))), (0, (Z : Int))], [(4, 29 + ((j : Int)))], g)) rfl
        dsimp only at h
        have h := zgf zy_92 h rfl rfl (dvf_29_5 (i := (j : Int)) (by omega) (by omega))
        dsimp only at h
        try rw [show (29 + ((j : Int))).toNat = 29 + j from by omega] at h
        try rw [hB5] at h
        have h := zm zy_92 h 1 (q := (cond (crel .ne S 0) 19 7, darg 0 [(4, 29 + ((j : Int))), (0, (Z : Int))], [], g)) rfl
        dsimp only at h
        rcases zif_ne h with ⟨hc12, h⟩ | ⟨hc12, h⟩
        · have h := zm zy_92 h 1 (q := (20, darg 0 [(4, 29 + ((j : Int))), (0, (Z : Int))], [(0, 0)], g)) rfl
          dsimp only at h
          have h := zret zy_92 h rfl rfl
          obtain ⟨e1, e2⟩ := oI h
          have h := hO11
          rw [e1, e2] at h
          clear e1 e2
          clear hO11
          have h := zm zy_123 h 3 (q := (17, dset (dset (dset (dset (dset (dset lf 4 (0, (j : Int))) 3 (0, (k : Int))) 2 (0, (m : Int))) 1 (0, (Z : Int))) 0 (4, 3)) 4 (0, w32 (((j : Int)) + 1)), [], g)) rfl
          dsimp only at h
          try rw [w32_eq (z := ((j : Int)) + 1) (v := 1 + (j : Int)) (by omega) (by omega) (by omega)] at h
          refine Or.inr (Or.inl (⟨Or.inl (⟨hc5, hc7, hc12⟩), ?_⟩))
          exact ⟨_, rfl, rfl, rfl, rfl, rfl, h⟩
        · have h := zm zy_92 h 1 (q := (8, darg 0 [(4, 29 + ((j : Int))), (0, (Z : Int))], [(4, 29 + ((j : Int)))], g)) rfl
          dsimp only at h
          have h := zgf zy_92 h rfl rfl (dvf_29_1 (i := (j : Int)) (by omega) (by omega))
          dsimp only at h
          try rw [show (29 + ((j : Int))).toNat = 29 + j from by omega] at h
          try rw [hB1] at h
          have h := zm zy_92 h 2 (q := (cond (crel .ne ((P : Int)) ((Z : Int))) 19 15, darg 0 [(4, 29 + ((j : Int))), (0, (Z : Int))], [], g)) rfl
          dsimp only at h
          rcases zif_ne h with ⟨hc14, h⟩ | ⟨hc14, h⟩
          · have h := zm zy_92 h 1 (q := (20, darg 0 [(4, 29 + ((j : Int))), (0, (Z : Int))], [(0, 0)], g)) rfl
            dsimp only at h
            have h := zret zy_92 h rfl rfl
            obtain ⟨e1, e2⟩ := oI h
            have h := hO11
            rw [e1, e2] at h
            clear e1 e2
            clear hO11
            have h := zm zy_123 h 3 (q := (17, dset (dset (dset (dset (dset (dset lf 4 (0, (j : Int))) 3 (0, (k : Int))) 2 (0, (m : Int))) 1 (0, (Z : Int))) 0 (4, 3)) 4 (0, w32 (((j : Int)) + 1)), [], g)) rfl
            dsimp only at h
            try rw [w32_eq (z := ((j : Int)) + 1) (v := 1 + (j : Int)) (by omega) (by omega) (by omega)] at h
            refine Or.inr (Or.inl (⟨Or.inr (⟨hc5, hc7, hc12, hc14⟩), ?_⟩))
            exact ⟨_, rfl, rfl, rfl, rfl, rfl, h⟩
          · have h := zm zy_92 h 2 (q := (20, darg 0 [(4, 29 + ((j : Int))), (0, (Z : Int))], [(0, 1)], g)) rfl
            dsimp only at h
            have h := zret zy_92 h rfl rfl
            obtain ⟨e1, e2⟩ := oI h
            have h := hO11
            rw [e1, e2] at h
            clear e1 e2
            clear hO11
            have h := zm zy_123 h 5 (q := (59, dset (dset (dset (dset (dset lf 4 (0, (j : Int))) 3 (0, (k : Int))) 2 (0, (m : Int))) 1 (0, (Z : Int))) 0 (4, 3), [(0, (k : Int)), (4, 7), (4, 3)], g)) rfl
            dsimp only at h
            have h := zald zy_123 h rfl rfl (dvp_7 (i := (k : Int)) (by omega) (by omega))
            dsimp only at h
            have h := zm zy_123 h 3 (q := (66, dset (dset (dset (dset (dset lf 4 (0, (j : Int))) 3 (0, (k : Int))) 2 (0, (m : Int))) 1 (0, (Z : Int))) 0 (4, 3), [(0, (j : Int)), (4, 7), (4, 29 + ((k : Int))), (4, 3)], g)) rfl
            dsimp only at h
            have h := zald zy_123 h rfl rfl (dvp_7 (i := (j : Int)) (by omega) (by omega))
            dsimp only at h
            obtain ⟨gz16, rz17, hk, h⟩ := zcallI zy_123 h rfl rfl zy_107 zk_107
            dsimp only at hk h
            have hO18 := h
            have h := hk
            clear hk
            have h := zm zy_107 h 2 (q := (2, darg 0 [(4, 3), (4, 29 + ((k : Int))), (4, 29 + ((j : Int)))], [(4, 29 + ((k : Int))), (4, 3)], g)) rfl
            dsimp only at h
            have h := zgf zy_107 h rfl rfl (dvf_29_2 (i := (k : Int)) (by omega) (by omega))
            dsimp only at h
            try rw [show (29 + ((k : Int))).toNat = 29 + k from by omega] at h
            try rw [hA2] at h
            have h := zm zy_107 h 1 (q := (6, darg 0 [(4, 3), (4, 29 + ((k : Int))), (4, 29 + ((j : Int)))], [(4, 29 + ((k : Int))), (0, (q : Int)), (4, 3)], g)) rfl
            dsimp only at h
            have h := zgf zy_107 h rfl rfl (dvf_29_3 (i := (k : Int)) (by omega) (by omega))
            dsimp only at h
            try rw [show (29 + ((k : Int))).toNat = 29 + k from by omega] at h
            try rw [hA3] at h
            have h := zm zy_107 h 1 (q := (10, darg 0 [(4, 3), (4, 29 + ((k : Int))), (4, 29 + ((j : Int)))], [(4, 29 + ((j : Int))), (0, (t : Int)), (0, (q : Int)), (4, 3)], g)) rfl
            dsimp only at h
            have h := zgf zy_107 h rfl rfl (dvf_29_2 (i := (j : Int)) (by omega) (by omega))
            dsimp only at h
            try rw [show (29 + ((j : Int))).toNat = 29 + j from by omega] at h
            try rw [hB2] at h
            have h := zm zy_107 h 1 (q := (14, darg 0 [(4, 3), (4, 29 + ((k : Int))), (4, 29 + ((j : Int)))], [(4, 29 + ((j : Int))), (0, (Q : Int)), (0, (t : Int)), (0, (q : Int)), (4, 3)], g)) rfl
            dsimp only at h
            have h := zgf zy_107 h rfl rfl (dvf_29_3 (i := (j : Int)) (by omega) (by omega))
            dsimp only at h
            try rw [show (29 + ((j : Int))).toNat = 29 + j from by omega] at h
            try rw [hB3] at h
            obtain ⟨g_1, r_1, hk, h⟩ := zcallI zy_107 h rfl rfl zy_101 zk_101
            dsimp only at hk h
            refine Or.inr (Or.inr (⟨⟨hc5, hc7, hc12, hc14⟩, ?_⟩))
            refine ⟨g_1, r_1, hk, ?_⟩
            have h := zret zy_107 h rfl rfl
            obtain ⟨e1, e2⟩ := oI h
            have h := hO18
            rw [e1, e2] at h
            clear e1 e2
            clear hO18
            have h := zm zy_123 h 1 (q := (cond (crel .ne r_1 0) 76 73, dset (dset (dset (dset (dset lf 4 (0, (j : Int))) 3 (0, (k : Int))) 2 (0, (m : Int))) 1 (0, (Z : Int))) 0 (4, 3), [], g_1)) rfl
            dsimp only at h
            rcases zif_ne h with ⟨hc19, h⟩ | ⟨hc19, h⟩
            · have h := zm zy_123 h 2 (q := (17, dset (dset (dset (dset (dset (dset lf 4 (0, (j : Int))) 3 (0, (k : Int))) 2 (0, (m : Int))) 1 (0, (Z : Int))) 0 (4, 3)) 4 (0, w32 (((j : Int)) + 1)), [], g_1)) rfl
              dsimp only at h
              try rw [w32_eq (z := ((j : Int)) + 1) (v := 1 + (j : Int)) (by omega) (by omega) (by omega)] at h
              refine Or.inl (⟨hc19, ?_⟩)
              exact ⟨_, rfl, rfl, rfl, rfl, rfl, h⟩
            · have h := zm zy_123 h 3 (q := (17, dset (dset (dset (dset (dset (dset (dset lf 4 (0, (j : Int))) 3 (0, (k : Int))) 2 (0, (m : Int))) 1 (0, (Z : Int))) 0 (4, 3)) 2 (0, w32 (((m : Int)) + 1))) 4 (0, w32 (((j : Int)) + 1)), [], g_1)) rfl
              dsimp only at h
              try rw [w32_eq (z := ((m : Int)) + 1) (v := 1 + (m : Int)) (by omega) (by omega) (by omega)] at h
              try rw [w32_eq (z := ((j : Int)) + 1) (v := 1 + (j : Int)) (by omega) (by omega) (by omega)] at h
              refine Or.inr (⟨hc19, ?_⟩)
              exact ⟨_, rfl, rfl, rfl, rfl, rfl, h⟩
theorem t_clo_e {sv : Nat → Int32} {L n : Nat} {lf : dlf} {g : cg} {o : cg × Option cv} {Z m k j N : Nat} (rZ : Z ≤ 5) (rm : m ≤ 300) (rk : k ≤ 15) (rj : j ≤ 16) (rN : N ≤ 16) (hN : g 3 9 = (N : Int)) (hge : N ≤ j) (h : zr sv L (n + 1) 123 17 lf [] g o) (hl0 : lf 0 = (4, 3)) (hl1 : lf 1 = (0, (Z : Int))) (hl2 : lf 2 = (0, (m : Int))) (hl3 : lf 3 = (0, (k : Int))) (hl4 : lf 4 = (0, (j : Int))) : ∃ lf', lf' 0 = (4, 3) ∧ lf' 1 = (0, (Z : Int)) ∧ lf' 2 = (0, (m : Int)) ∧ lf' 3 = (0, 1 + (k : Int)) ∧ zr sv L n 123 4 lf' [] g o := by
  rw [zov hl0, zov hl1, zov hl2, zov hl3, zov hl4] at h
  have h := zm1 zy_123 h 3 (q := (cond (crel .ge ((j : Int)) (g 3 9)) 82 26, dset (dset (dset (dset (dset lf 4 (0, (j : Int))) 3 (0, (k : Int))) 2 (0, (m : Int))) 1 (0, (Z : Int))) 0 (4, 3), [], g)) rfl
  dsimp only at h
  try rw [hN] at h
  rcases zif_ge h with ⟨hc1, h⟩ | ⟨hc1, h⟩
  · have h := zm zy_123 h 2 (q := (4, dset (dset (dset (dset (dset (dset lf 4 (0, (j : Int))) 3 (0, (k : Int))) 2 (0, (m : Int))) 1 (0, (Z : Int))) 0 (4, 3)) 3 (0, w32 (((k : Int)) + 1)), [], g)) rfl
    dsimp only at h
    try rw [w32_eq (z := ((k : Int)) + 1) (v := 1 + (k : Int)) (by omega) (by omega) (by omega)] at h
    exact ⟨_, rfl, rfl, rfl, rfl, h⟩
  · exact absurd hc1 (by omega)
theorem m_clo0 {sv : Nat → Int32} {L n : Nat} {lf : dlf} {g : cg} {o : cg × Option cv} {a : Int} (h : zr sv L n 330 0 lf [] g o) (hl0 : lf 0 = (4, 253)) (hl1 : lf 1 = (0, a)) : (((a < 0) ∨ (0 ≤ a ∧ g 254 1 ≤ a)) ∧ (o = (cup g 253 2 1, some (0, (-1))))) ∨ ((0 ≤ a ∧ a < g 254 1) ∧ (∃ lf', lf' 0 = (4, 253) ∧ lf' 1 = (0, a) ∧ zr sv L n 330 14 lf' [] g o)) := by
  rw [zov hl0, zov hl1] at h
  have h := zm zy_330 h 2 (q := (2, dset (dset lf 1 (0, a)) 0 (4, 253), [(0, a), (4, 253)], g)) rfl
  dsimp only at h
  obtain ⟨gz1, rz2, hk, h⟩ := zcallI zy_330 h rfl rfl zy_208 zk_208
  dsimp only at hk h
  have hO3 := h
  have h := hk
  clear hk
  have h := zm zy_208 h 2 (q := (cond (crel .lt a 0) 18 4, darg 0 [(4, 253), (0, a)], [], g)) rfl
  dsimp only at h
  rcases zif_lt h with ⟨hc4, h⟩ | ⟨hc4, h⟩
  · have h := zm zy_208 h 1 (q := (19, darg 0 [(4, 253), (0, a)], [(0, 0)], g)) rfl
    dsimp only at h
    have h := zret zy_208 h rfl rfl
    obtain ⟨e1, e2⟩ := oI h
    have h := hO3
    rw [e1, e2] at h
    clear e1 e2
    clear hO3
    have h := zm zy_330 h 3 (q := (10, dset (dset lf 1 (0, a)) 0 (4, 253), [(0, 1), (4, 253)], g)) rfl
    dsimp only at h
    obtain ⟨gz5, rz6, hk, h⟩ := zcallI zy_330 h rfl rfl zy_170 zk_170
    dsimp only at hk h
    have hO7 := h
    have h := hk
    clear hk
    have h := zm zy_170 h 4 (q := (6, darg 0 [(4, 253), (0, 1)], [(0, (-1))], cup g 253 2 1)) rfl
    dsimp only at h
    have h := zret zy_170 h rfl rfl
    obtain ⟨e1, e2⟩ := oI h
    have h := hO7
    rw [e1, e2] at h
    clear e1 e2
    clear hO7
    refine Or.inl (⟨Or.inl (hc4), ?_⟩)
    exact zret zy_330 h rfl rfl
  · have h := zm zy_208 h 6 (q := (cond (crel .ge a (g 254 1)) 18 14, darg 0 [(4, 253), (0, a)], [], g)) rfl
    dsimp only at h
    rcases zif_ge h with ⟨hc8, h⟩ | ⟨hc8, h⟩
    · have h := zm zy_208 h 1 (q := (19, darg 0 [(4, 253), (0, a)], [(0, 0)], g)) rfl
      dsimp only at h
      have h := zret zy_208 h rfl rfl
      obtain ⟨e1, e2⟩ := oI h
      have h := hO3
      rw [e1, e2] at h
      clear e1 e2
      clear hO3
      have h := zm zy_330 h 3 (q := (10, dset (dset lf 1 (0, a)) 0 (4, 253), [(0, 1), (4, 253)], g)) rfl
      dsimp only at h
      obtain ⟨gz9, rz10, hk, h⟩ := zcallI zy_330 h rfl rfl zy_170 zk_170
      dsimp only at hk h
      have hO11 := h
      have h := hk
      clear hk
      have h := zm zy_170 h 4 (q := (6, darg 0 [(4, 253), (0, 1)], [(0, (-1))], cup g 253 2 1)) rfl
      dsimp only at h
      have h := zret zy_170 h rfl rfl
      obtain ⟨e1, e2⟩ := oI h
      have h := hO11
      rw [e1, e2] at h
      clear e1 e2
      clear hO11
      refine Or.inl (⟨Or.inr (⟨hc4, hc8⟩), ?_⟩)
      exact zret zy_330 h rfl rfl
    · have h := zm zy_208 h 2 (q := (19, darg 0 [(4, 253), (0, a)], [(0, 1)], g)) rfl
      dsimp only at h
      have h := zret zy_208 h rfl rfl
      obtain ⟨e1, e2⟩ := oI h
      have h := hO3
      rw [e1, e2] at h
      clear e1 e2
      clear hO3
      have h := zm zy_330 h 1 (q := (14, dset (dset lf 1 (0, a)) 0 (4, 253), [], g)) rfl
      dsimp only at h
      refine Or.inr (⟨⟨hc4, hc8⟩, ?_⟩)
      exact ⟨_, rfl, rfl, h⟩
theorem m_clo14 {sv : Nat → Int32} {L n : Nat} {lf : dlf} {g : cg} {o : cg × Option cv} {Z : Nat} (rZ : Z ≤ 5) (h : zr sv L n 330 14 lf [] g o) (hl0 : lf 0 = (4, 253)) (hl1 : lf 1 = (0, (Z : Int))) : ∃ lf', lf' 0 = (4, 253) ∧ lf' 1 = (0, (Z : Int)) ∧ lf' 2 = (0, 0) ∧ lf' 3 = (0, 0) ∧ zr sv L n 330 18 lf' [] g o := by
  rw [zov hl0, zov hl1] at h
  have h := zm zy_330 h 4 (q := (18, dset (dset (dset (dset lf 1 (0, (Z : Int))) 0 (4, 253)) 2 (0, 0)) 3 (0, 0), [], g)) rfl
  dsimp only at h
  exact ⟨_, rfl, rfl, rfl, rfl, h⟩
theorem m_clo_o {sv : Nat → Int32} {L n : Nat} {lf : dlf} {g : cg} {o : cg × Option cv} {Z m k N : Nat} (rZ : Z ≤ 5) (rm : m ≤ 300) (rk : k ≤ 15) (rN : N ≤ 16) (hN : g 254 2 = (N : Int)) (hlt : k < N) (h : zr sv L (n + 1) 330 18 lf [] g o) (hl0 : lf 0 = (4, 253)) (hl1 : lf 1 = (0, (Z : Int))) (hl2 : lf 2 = (0, (m : Int))) (hl3 : lf 3 = (0, (k : Int))) : ∃ lf', lf' 0 = (4, 253) ∧ lf' 1 = (0, (Z : Int)) ∧ lf' 2 = (0, (m : Int)) ∧ lf' 3 = (0, (k : Int)) ∧ lf' 4 = (0, 0) ∧ zr sv L n 330 31 lf' [] g o := by
  rw [zov hl0, zov hl1, zov hl2, zov hl3] at h
  have h := zm1 zy_330 h 5 (q := (cond (crel .ge ((k : Int)) (g 254 2)) 103 28, dset (dset (dset (dset lf 3 (0, (k : Int))) 2 (0, (m : Int))) 1 (0, (Z : Int))) 0 (4, 253), [], g)) rfl
  dsimp only at h
  try rw [hN] at h
  rcases zif_ge h with ⟨hc1, h⟩ | ⟨hc1, h⟩
  · exact absurd hc1 (by omega)
  · have h := zm zy_330 h 2 (q := (31, dset (dset (dset (dset (dset lf 3 (0, (k : Int))) 2 (0, (m : Int))) 1 (0, (Z : Int))) 0 (4, 253)) 4 (0, 0), [], g)) rfl
    dsimp only at h
    exact ⟨_, rfl, rfl, rfl, rfl, rfl, h⟩
theorem m_clo_x {sv : Nat → Int32} {L n : Nat} {lf : dlf} {g : cg} {o : cg × Option cv} {Z m k N : Nat} (rZ : Z ≤ 5) (rm : m ≤ 300) (rk : k ≤ 16) (rN : N ≤ 16) (hN : g 254 2 = (N : Int)) (hge : N ≤ k) (h : zr sv L (n + 1) 330 18 lf [] g o) (hl0 : lf 0 = (4, 253)) (hl1 : lf 1 = (0, (Z : Int))) (hl2 : lf 2 = (0, (m : Int))) (hl3 : lf 3 = (0, (k : Int))) : o = (cup g 253 2 0, some (0, (m : Int))) := by
  rw [zov hl0, zov hl1, zov hl2, zov hl3] at h
  have h := zm1 zy_330 h 5 (q := (cond (crel .ge ((k : Int)) (g 254 2)) 103 28, dset (dset (dset (dset lf 3 (0, (k : Int))) 2 (0, (m : Int))) 1 (0, (Z : Int))) 0 (4, 253), [], g)) rfl
  dsimp only at h
  try rw [hN] at h
  rcases zif_ge h with ⟨hc1, h⟩ | ⟨hc1, h⟩
  · have h := zm zy_330 h 2 (q := (105, dset (dset (dset (dset lf 3 (0, (k : Int))) 2 (0, (m : Int))) 1 (0, (Z : Int))) 0 (4, 253), [(0, (m : Int)), (4, 253)], g)) rfl
    dsimp only at h
    obtain ⟨gz2, rz3, hk, h⟩ := zcallI zy_330 h rfl rfl zy_192 zk_192
    dsimp only at hk h
    have hO4 := h
    have h := hk
    clear hk
    have h := zm zy_192 h 4 (q := (6, darg 0 [(4, 253), (0, (m : Int))], [(0, (m : Int))], cup g 253 2 0)) rfl
    dsimp only at h
    have h := zret zy_192 h rfl rfl
    obtain ⟨e1, e2⟩ := oI h
    have h := hO4
    rw [e1, e2] at h
    clear e1 e2
    clear hO4
    exact zret zy_330 h rfl rfl
  · exact absurd hc1 (by omega)
theorem m_clo_s {sv : Nat → Int32} {L n : Nat} {lf : dlf} {g : cg} {o : cg × Option cv} {k j m Z p q t P Q T : Nat} {s S : Int} (rk : k ≤ 15) (rj : j ≤ 15) (rm : m ≤ 300) (rZ : Z ≤ 5) (rp : p ≤ 5) (rq : q ≤ 4) (rt : t ≤ 7) (rP : P ≤ 5) (rQ : Q ≤ 4) (rT : T ≤ 7) (hA1 : g 254 (100 + 8 * k) = (p : Int)) (hA2 : g 254 (101 + 8 * k) = (q : Int)) (hA3 : g 254 (102 + 8 * k) = (t : Int)) (hA5 : g 254 (104 + 8 * k) = s) (hB1 : g 254 (100 + 8 * j) = (P : Int)) (hB2 : g 254 (101 + 8 * j) = (Q : Int)) (hB3 : g 254 (102 + 8 * j) = (T : Int)) (hB5 : g 254 (104 + 8 * j) = S) (hlt : j < k) (h : zr sv L (n + 1) 330 31 lf [] g o) (hl0 : lf 0 = (4, 253)) (hl1 : lf 1 = (0, (Z : Int))) (hl2 : lf 2 = (0, (m : Int))) (hl3 : lf 3 = (0, (k : Int))) (hl4 : lf 4 = (0, (j : Int))) : (((s ≠ 0) ∨ (s = 0 ∧ S ≠ 0) ∨ (s = 0 ∧ S = 0 ∧ (p : Int) ≠ (Z : Int)) ∨ (s = 0 ∧ S = 0 ∧ (p : Int) = (Z : Int) ∧ (P : Int) ≠ (Z : Int))) ∧ (∃ lf', lf' 0 = (4, 253) ∧ lf' 1 = (0, (Z : Int)) ∧ lf' 2 = (0, (m : Int)) ∧ lf' 3 = (0, (k : Int)) ∧ lf' 4 = (0, 1 + (j : Int)) ∧ zr sv L n 330 31 lf' [] g o)) ∨ ((s = 0 ∧ S = 0 ∧ (p : Int) = (Z : Int) ∧ (P : Int) = (Z : Int)) ∧ (∃ g_1 r_1, zr sv L n 231 0 (darg 0 [(4, 253), (0, (q : Int)), (0, (t : Int)), (0, (Q : Int)), (0, (T : Int))]) [] g (g_1, some (0, r_1)) ∧ (((r_1 ≠ 0) ∧ (∃ lf', lf' 0 = (4, 253) ∧ lf' 1 = (0, (Z : Int)) ∧ lf' 2 = (0, (m : Int)) ∧ lf' 3 = (0, (k : Int)) ∧ lf' 4 = (0, 1 + (j : Int)) ∧ zr sv L n 330 31 lf' [] g_1 o)) ∨ ((r_1 = 0) ∧ (∃ lf', lf' 0 = (4, 253) ∧ lf' 1 = (0, (Z : Int)) ∧ lf' 2 = (0, 1 + (m : Int)) ∧ lf' 3 = (0, (k : Int)) ∧ lf' 4 = (0, 1 + (j : Int)) ∧ zr sv L n 330 31 lf' [] g_1 o))))) := by
  rw [zov hl0, zov hl1, zov hl2, zov hl3, zov hl4] at h
  have h := zm1 zy_330 h 2 (q := (cond (crel .ge ((j : Int)) ((k : Int))) 97 37, dset (dset (dset (dset (dset lf 4 (0, (j : Int))) 3 (0, (k : Int))) 2 (0, (m : Int))) 1 (0, (Z : Int))) 0 (4, 253), [], g)) rfl
  dsimp only at h
  rcases zif_ge h with ⟨hc1, h⟩ | ⟨hc1, h⟩
  · exact absurd hc1 (by omega)
  · have h := zm zy_330 h 3 (q := (40, dset (dset (dset (dset (dset lf 4 (0, (j : Int))) 3 (0, (k : Int))) 2 (0, (m : Int))) 1 (0, (Z : Int))) 0 (4, 253), [(0, (k : Int)), (4, 253), (0, (m : Int))], g)) rfl
    dsimp only at h
    obtain ⟨gz2, rz3, hk, h⟩ := zcallI zy_330 h rfl rfl zy_201 zk_201
    dsimp only at hk h
    have hO4 := h
    have h := hk
    clear hk
    have h := zm zy_201 h 3 (q := (5, darg 0 [(4, 253), (0, (k : Int))], [(0, (k : Int)), (4, 254)], g)) rfl
    dsimp only at h
    obtain ⟨gz5, rz6, hk, h⟩ := zcallI zy_201 h rfl rfl zy_199 zk_199
    dsimp only at hk h
    have hO7 := h
    have h := hk
    clear hk
    have h := zm zy_199 h 5 (q := (7, darg 0 [(0, (k : Int))], [(0, w32 (99 + (w32 (8 * ((k : Int))))))], g)) rfl
    dsimp only at h
    try rw [w32_eq (z := 8 * ((k : Int))) (v := 8 * (k : Int)) (by omega) (by omega) (by omega)] at h
    try rw [w32_eq (z := 99 + (8 * (k : Int))) (v := 99 + 8 * (k : Int)) (by omega) (by omega) (by omega)] at h
    have h := zret zy_199 h rfl rfl
    obtain ⟨e1, e2⟩ := oI h
    have h := hO7
    rw [e1, e2] at h
    clear e1 e2
    clear hO7
    have h := zm zy_201 h 2 (q := (10, darg 0 [(4, 253), (0, (k : Int))], [(0, w32 ((99 + 8 * (k : Int)) + 5)), (4, 254)], g)) rfl
    dsimp only at h
    try rw [w32_eq (z := (99 + 8 * (k : Int)) + 5) (v := 104 + 8 * (k : Int)) (by omega) (by omega) (by omega)] at h
    have h := zald zy_201 h rfl rfl (dvb_254 (i := 104 + 8 * (k : Int)) (by omega) (by omega))
    dsimp only at h
    try rw [show (104 + 8 * (k : Int)).toNat = 104 + 8 * k from by omega] at h
    try rw [hA5] at h
    have h := zm zy_201 h 1 (q := (cond (crel .ne s 0) 18 14, darg 0 [(4, 253), (0, (k : Int))], [], g)) rfl
    dsimp only at h
    rcases zif_ne h with ⟨hc8, h⟩ | ⟨hc8, h⟩
    · have h := zm zy_201 h 1 (q := (19, darg 0 [(4, 253), (0, (k : Int))], [(0, 0)], g)) rfl
      dsimp only at h
      have h := zret zy_201 h rfl rfl
      obtain ⟨e1, e2⟩ := oI h
      have h := hO4
      rw [e1, e2] at h
      clear e1 e2
      clear hO4
      have h := zm zy_330 h 6 (q := (31, dset (dset (dset (dset (dset (dset (dset lf 4 (0, (j : Int))) 3 (0, (k : Int))) 2 (0, (m : Int))) 1 (0, (Z : Int))) 0 (4, 253)) 2 (0, w32 (((m : Int)) + 0))) 4 (0, w32 (((j : Int)) + 1)), [], g)) rfl
      dsimp only at h
      try rw [w32_eq (z := ((m : Int)) + 0) (v := (m : Int)) (by omega) (by omega) (by omega)] at h
      try rw [w32_eq (z := ((j : Int)) + 1) (v := 1 + (j : Int)) (by omega) (by omega) (by omega)] at h
      refine Or.inl (⟨Or.inl (hc8), ?_⟩)
      exact ⟨_, rfl, rfl, rfl, rfl, rfl, h⟩
    · have h := zm zy_201 h 2 (q := (19, darg 0 [(4, 253), (0, (k : Int))], [(0, 1)], g)) rfl
      dsimp only at h
      have h := zret zy_201 h rfl rfl
      obtain ⟨e1, e2⟩ := oI h
      have h := hO4
      rw [e1, e2] at h
      clear e1 e2
      clear hO4
      have h := zm zy_330 h 3 (q := (49, dset (dset (dset (dset (dset lf 4 (0, (j : Int))) 3 (0, (k : Int))) 2 (0, (m : Int))) 1 (0, (Z : Int))) 0 (4, 253), [(0, (j : Int)), (4, 253), (0, (m : Int))], g)) rfl
      dsimp only at h
      obtain ⟨gz10, rz11, hk, h⟩ := zcallI zy_330 h rfl rfl zy_201 zk_201
      dsimp only at hk h
      have hO12 := h
      have h := hk
      clear hk
      have h := zm zy_201 h 3 (q := (5, darg 0 [(4, 253), (0, (j : Int))], [(0, (j : Int)), (4, 254)], g)) rfl
      dsimp only at h
      obtain ⟨gz13, rz14, hk, h⟩ := zcallI zy_201 h rfl rfl zy_199 zk_199
      dsimp only at hk h
      have hO15 := h
      have h := hk
      clear hk
      have h := zm zy_199 h 5 (q := (7, darg 0 [(0, (j : Int))], [(0, w32 (99 + (w32 (8 * ((j : Int))))))], g)) rfl
      dsimp only at h
      try rw [w32_eq (z := 8 * ((j : Int))) (v := 8 * (j : Int)) (by omega) (by omega) (by omega)] at h
      try rw [w32_eq (z := 99 + (8 * (j : Int))) (v := 99 + 8 * (j : Int)) (by omega) (by omega) (by omega)] at h
      have h := zret zy_199 h rfl rfl
      obtain ⟨e1, e2⟩ := oI h
      have h := hO15
      rw [e1, e2] at h
      clear e1 e2
      clear hO15
      have h := zm zy_201 h 2 (q := (10, darg 0 [(4, 253), (0, (j : Int))], [(0, w32 ((99 + 8 * (j : Int)) + 5)), (4, 254)], g)) rfl
      dsimp only at h
      try rw [w32_eq (z := (99 + 8 * (j : Int)) + 5) (v := 104 + 8 * (j : Int)) (by omega) (by omega) (by omega)] at h
      have h := zald zy_201 h rfl rfl (dvb_254 (i := 104 + 8 * (j : Int)) (by omega) (by omega))
      dsimp only at h
      try rw [show (104 + 8 * (j : Int)).toNat = 104 + 8 * j from by omega] at h
      try rw [hB5] at h
      have h := zm zy_201 h 1 (q := (cond (crel .ne S 0) 18 14, darg 0 [(4, 253), (0, (j : Int))], [], g)) rfl
      dsimp only at h
      rcases zif_ne h with ⟨hc16, h⟩ | ⟨hc16, h⟩
      · have h := zm zy_201 h 1 (q := (19, darg 0 [(4, 253), (0, (j : Int))], [(0, 0)], g)) rfl
        dsimp only at h
        have h := zret zy_201 h rfl rfl
        obtain ⟨e1, e2⟩ := oI h
        have h := hO12
        rw [e1, e2] at h
        clear e1 e2
        clear hO12
        have h := zm zy_330 h 6 (q := (31, dset (dset (dset (dset (dset (dset (dset lf 4 (0, (j : Int))) 3 (0, (k : Int))) 2 (0, (m : Int))) 1 (0, (Z : Int))) 0 (4, 253)) 2 (0, w32 (((m : Int)) + 0))) 4 (0, w32 (((j : Int)) + 1)), [], g)) rfl
        dsimp only at h
        try rw [w32_eq (z := ((m : Int)) + 0) (v := (m : Int)) (by omega) (by omega) (by omega)] at h
        try rw [w32_eq (z := ((j : Int)) + 1) (v := 1 + (j : Int)) (by omega) (by omega) (by omega)] at h
        refine Or.inl (⟨Or.inr (Or.inl (⟨hc8, hc16⟩)), ?_⟩)
        exact ⟨_, rfl, rfl, rfl, rfl, rfl, h⟩
      · have h := zm zy_201 h 2 (q := (19, darg 0 [(4, 253), (0, (j : Int))], [(0, 1)], g)) rfl
        dsimp only at h
        have h := zret zy_201 h rfl rfl
        obtain ⟨e1, e2⟩ := oI h
        have h := hO12
        rw [e1, e2] at h
        clear e1 e2
        clear hO12
        have h := zm zy_330 h 3 (q := (57, dset (dset (dset (dset (dset lf 4 (0, (j : Int))) 3 (0, (k : Int))) 2 (0, (m : Int))) 1 (0, (Z : Int))) 0 (4, 253), [(0, (k : Int)), (4, 253), (0, (m : Int))], g)) rfl
        dsimp only at h
        obtain ⟨gz18, rz19, hk, h⟩ := zcallI zy_330 h rfl rfl zy_203 zk_203
        dsimp only at hk h
        have hO20 := h
        have h := hk
        clear hk
        have h := zm zy_203 h 3 (q := (5, darg 0 [(4, 253), (0, (k : Int))], [(0, (k : Int)), (4, 254)], g)) rfl
        dsimp only at h
        obtain ⟨gz21, rz22, hk, h⟩ := zcallI zy_203 h rfl rfl zy_199 zk_199
        dsimp only at hk h
        have hO23 := h
        have h := hk
        clear hk
        have h := zm zy_199 h 5 (q := (7, darg 0 [(0, (k : Int))], [(0, w32 (99 + (w32 (8 * ((k : Int))))))], g)) rfl
        dsimp only at h
        try rw [w32_eq (z := 8 * ((k : Int))) (v := 8 * (k : Int)) (by omega) (by omega) (by omega)] at h
        try rw [w32_eq (z := 99 + (8 * (k : Int))) (v := 99 + 8 * (k : Int)) (by omega) (by omega) (by omega)] at h
        have h := zret zy_199 h rfl rfl
        obtain ⟨e1, e2⟩ := oI h
        have h := hO23
        rw [e1, e2] at h
        clear e1 e2
        clear hO23
        have h := zm zy_203 h 2 (q := (10, darg 0 [(4, 253), (0, (k : Int))], [(0, w32 ((99 + 8 * (k : Int)) + 1)), (4, 254)], g)) rfl
        dsimp only at h
        try rw [w32_eq (z := (99 + 8 * (k : Int)) + 1) (v := 100 + 8 * (k : Int)) (by omega) (by omega) (by omega)] at h
        have h := zald zy_203 h rfl rfl (dvb_254 (i := 100 + 8 * (k : Int)) (by omega) (by omega))
        dsimp only at h
        try rw [show (100 + 8 * (k : Int)).toNat = 100 + 8 * k from by omega] at h
        try rw [hA1] at h
        have h := zret zy_203 h rfl rfl
        obtain ⟨e1, e2⟩ := oI h
        have h := hO20
        rw [e1, e2] at h
        clear e1 e2
        clear hO20
        have h := zm zy_330 h 2 (q := (cond (crel .ne ((p : Int)) ((Z : Int))) 88 64, dset (dset (dset (dset (dset lf 4 (0, (j : Int))) 3 (0, (k : Int))) 2 (0, (m : Int))) 1 (0, (Z : Int))) 0 (4, 253), [(0, (m : Int))], g)) rfl
        dsimp only at h
        rcases zif_ne h with ⟨hc24, h⟩ | ⟨hc24, h⟩
        · have h := zm zy_330 h 5 (q := (31, dset (dset (dset (dset (dset (dset (dset lf 4 (0, (j : Int))) 3 (0, (k : Int))) 2 (0, (m : Int))) 1 (0, (Z : Int))) 0 (4, 253)) 2 (0, w32 (((m : Int)) + 0))) 4 (0, w32 (((j : Int)) + 1)), [], g)) rfl
          dsimp only at h
          try rw [w32_eq (z := ((m : Int)) + 0) (v := (m : Int)) (by omega) (by omega) (by omega)] at h
          try rw [w32_eq (z := ((j : Int)) + 1) (v := 1 + (j : Int)) (by omega) (by omega) (by omega)] at h
          refine Or.inl (⟨Or.inr (Or.inr (Or.inl (⟨hc8, hc16, hc24⟩))), ?_⟩)
          exact ⟨_, rfl, rfl, rfl, rfl, rfl, h⟩
        · have h := zm zy_330 h 2 (q := (67, dset (dset (dset (dset (dset lf 4 (0, (j : Int))) 3 (0, (k : Int))) 2 (0, (m : Int))) 1 (0, (Z : Int))) 0 (4, 253), [(0, (j : Int)), (4, 253), (0, (m : Int))], g)) rfl
          dsimp only at h
          obtain ⟨gz26, rz27, hk, h⟩ := zcallI zy_330 h rfl rfl zy_203 zk_203
          dsimp only at hk h
          have hO28 := h
          have h := hk
          clear hk
          have h := zm zy_203 h 3 (q := (5, darg 0 [(4, 253), (0, (j : Int))], [(0, (j : Int)), (4, 254)], g)) rfl
          dsimp only at h
          obtain ⟨gz29, rz30, hk, h⟩ := zcallI zy_203 h rfl rfl zy_199 zk_199
          dsimp only at hk h
          have hO31 := h
          have h := hk
          clear hk
          have h := zm zy_199 h 5 (q := (7, darg 0 [(0, (j : Int))], [(0, w32 (99 + (w32 (8 * ((j : Int))))))], g)) rfl
          dsimp only at h
          try rw [w32_eq (z := 8 * ((j : Int))) (v := 8 * (j : Int)) (by omega) (by omega) (by omega)] at h
          try rw [w32_eq (z := 99 + (8 * (j : Int))) (v := 99 + 8 * (j : Int)) (by omega) (by omega) (by omega)] at h
          have h := zret zy_199 h rfl rfl
          obtain ⟨e1, e2⟩ := oI h
          have h := hO31
          rw [e1, e2] at h
          clear e1 e2
          clear hO31
          have h := zm zy_203 h 2 (q := (10, darg 0 [(4, 253), (0, (j : Int))], [(0, w32 ((99 + 8 * (j : Int)) + 1)), (4, 254)], g)) rfl
          dsimp only at h
          try rw [w32_eq (z := (99 + 8 * (j : Int)) + 1) (v := 100 + 8 * (j : Int)) (by omega) (by omega) (by omega)] at h
          have h := zald zy_203 h rfl rfl (dvb_254 (i := 100 + 8 * (j : Int)) (by omega) (by omega))
          dsimp only at h
          try rw [show (100 + 8 * (j : Int)).toNat = 100 + 8 * j from by omega] at h
          try rw [hB1] at h
          have h := zret zy_203 h rfl rfl
          obtain ⟨e1, e2⟩ := oI h
          have h := hO28
          rw [e1, e2] at h
          clear e1 e2
          clear hO28
          have h := zm zy_330 h 2 (q := (cond (crel .ne ((P : Int)) ((Z : Int))) 88 74, dset (dset (dset (dset (dset lf 4 (0, (j : Int))) 3 (0, (k : Int))) 2 (0, (m : Int))) 1 (0, (Z : Int))) 0 (4, 253), [(0, (m : Int))], g)) rfl
          dsimp only at h
          rcases zif_ne h with ⟨hc32, h⟩ | ⟨hc32, h⟩
          · have h := zm zy_330 h 5 (q := (31, dset (dset (dset (dset (dset (dset (dset lf 4 (0, (j : Int))) 3 (0, (k : Int))) 2 (0, (m : Int))) 1 (0, (Z : Int))) 0 (4, 253)) 2 (0, w32 (((m : Int)) + 0))) 4 (0, w32 (((j : Int)) + 1)), [], g)) rfl
            dsimp only at h
            try rw [w32_eq (z := ((m : Int)) + 0) (v := (m : Int)) (by omega) (by omega) (by omega)] at h
            try rw [w32_eq (z := ((j : Int)) + 1) (v := 1 + (j : Int)) (by omega) (by omega) (by omega)] at h
            refine Or.inl (⟨Or.inr (Or.inr (Or.inr (⟨hc8, hc16, hc24, hc32⟩))), ?_⟩)
            exact ⟨_, rfl, rfl, rfl, rfl, rfl, h⟩
          · have h := zm zy_330 h 3 (q := (78, dset (dset (dset (dset (dset lf 4 (0, (j : Int))) 3 (0, (k : Int))) 2 (0, (m : Int))) 1 (0, (Z : Int))) 0 (4, 253), [(0, (j : Int)), (0, (k : Int)), (4, 253), (0, (m : Int))], g)) rfl
            dsimp only at h
            obtain ⟨gz34, rz35, hk, h⟩ := zcallI zy_330 h rfl rfl zy_230 zk_230
            dsimp only at hk h
            have hO36 := h
            have h := hk
            clear hk
            have h := zm zy_230 h 3 (q := (3, darg 0 [(4, 253), (0, (k : Int)), (0, (j : Int))], [(0, (k : Int)), (4, 253), (4, 253)], g)) rfl
            dsimp only at h
            obtain ⟨gz37, rz38, hk, h⟩ := zcallI zy_230 h rfl rfl zy_206 zk_206
            dsimp only at hk h
            have hO39 := h
            have h := hk
            clear hk
            have h := zm zy_206 h 3 (q := (5, darg 0 [(4, 253), (0, (k : Int))], [(0, (k : Int)), (4, 254)], g)) rfl
            dsimp only at h
            obtain ⟨gz40, rz41, hk, h⟩ := zcallI zy_206 h rfl rfl zy_199 zk_199
            dsimp only at hk h
            have hO42 := h
            have h := hk
            clear hk
            have h := zm zy_199 h 5 (q := (7, darg 0 [(0, (k : Int))], [(0, w32 (99 + (w32 (8 * ((k : Int))))))], g)) rfl
            dsimp only at h
            try rw [w32_eq (z := 8 * ((k : Int))) (v := 8 * (k : Int)) (by omega) (by omega) (by omega)] at h
            try rw [w32_eq (z := 99 + (8 * (k : Int))) (v := 99 + 8 * (k : Int)) (by omega) (by omega) (by omega)] at h
            have h := zret zy_199 h rfl rfl
            obtain ⟨e1, e2⟩ := oI h
            have h := hO42
            rw [e1, e2] at h
            clear e1 e2
            clear hO42
            have h := zm zy_206 h 2 (q := (10, darg 0 [(4, 253), (0, (k : Int))], [(0, w32 ((99 + 8 * (k : Int)) + 2)), (4, 254)], g)) rfl
            dsimp only at h
            try rw [w32_eq (z := (99 + 8 * (k : Int)) + 2) (v := 101 + 8 * (k : Int)) (by omega) (by omega) (by omega)] at h
            have h := zald zy_206 h rfl rfl (dvb_254 (i := 101 + 8 * (k : Int)) (by omega) (by omega))
            dsimp only at h
            try rw [show (101 + 8 * (k : Int)).toNat = 101 + 8 * k from by omega] at h
            try rw [hA2] at h
            have h := zret zy_206 h rfl rfl
            obtain ⟨e1, e2⟩ := oI h
            have h := hO39
            rw [e1, e2] at h
            clear e1 e2
            clear hO39
            have h := zm zy_230 h 2 (q := (8, darg 0 [(4, 253), (0, (k : Int)), (0, (j : Int))], [(0, (k : Int)), (4, 253), (0, (q : Int)), (4, 253)], g)) rfl
            dsimp only at h
            obtain ⟨gz43, rz44, hk, h⟩ := zcallI zy_230 h rfl rfl zy_204 zk_204
            dsimp only at hk h
            have hO45 := h
            have h := hk
            clear hk
            have h := zm zy_204 h 3 (q := (5, darg 0 [(4, 253), (0, (k : Int))], [(0, (k : Int)), (4, 254)], g)) rfl
            dsimp only at h
            obtain ⟨gz46, rz47, hk, h⟩ := zcallI zy_204 h rfl rfl zy_199 zk_199
            dsimp only at hk h
            have hO48 := h
            have h := hk
            clear hk
            have h := zm zy_199 h 5 (q := (7, darg 0 [(0, (k : Int))], [(0, w32 (99 + (w32 (8 * ((k : Int))))))], g)) rfl
            dsimp only at h
            try rw [w32_eq (z := 8 * ((k : Int))) (v := 8 * (k : Int)) (by omega) (by omega) (by omega)] at h
            try rw [w32_eq (z := 99 + (8 * (k : Int))) (v := 99 + 8 * (k : Int)) (by omega) (by omega) (by omega)] at h
            have h := zret zy_199 h rfl rfl
            obtain ⟨e1, e2⟩ := oI h
            have h := hO48
            rw [e1, e2] at h
            clear e1 e2
            clear hO48
            have h := zm zy_204 h 2 (q := (10, darg 0 [(4, 253), (0, (k : Int))], [(0, w32 ((99 + 8 * (k : Int)) + 3)), (4, 254)], g)) rfl
            dsimp only at h
            try rw [w32_eq (z := (99 + 8 * (k : Int)) + 3) (v := 102 + 8 * (k : Int)) (by omega) (by omega) (by omega)] at h
            have h := zald zy_204 h rfl rfl (dvb_254 (i := 102 + 8 * (k : Int)) (by omega) (by omega))
            dsimp only at h
            try rw [show (102 + 8 * (k : Int)).toNat = 102 + 8 * k from by omega] at h
            try rw [hA3] at h
            have h := zret zy_204 h rfl rfl
            obtain ⟨e1, e2⟩ := oI h
            have h := hO45
            rw [e1, e2] at h
            clear e1 e2
            clear hO45
            have h := zm zy_230 h 2 (q := (13, darg 0 [(4, 253), (0, (k : Int)), (0, (j : Int))], [(0, (j : Int)), (4, 253), (0, (t : Int)), (0, (q : Int)), (4, 253)], g)) rfl
            dsimp only at h
            obtain ⟨gz49, rz50, hk, h⟩ := zcallI zy_230 h rfl rfl zy_206 zk_206
            dsimp only at hk h
            have hO51 := h
            have h := hk
            clear hk
            have h := zm zy_206 h 3 (q := (5, darg 0 [(4, 253), (0, (j : Int))], [(0, (j : Int)), (4, 254)], g)) rfl
            dsimp only at h
            obtain ⟨gz52, rz53, hk, h⟩ := zcallI zy_206 h rfl rfl zy_199 zk_199
            dsimp only at hk h
            have hO54 := h
            have h := hk
            clear hk
            have h := zm zy_199 h 5 (q := (7, darg 0 [(0, (j : Int))], [(0, w32 (99 + (w32 (8 * ((j : Int))))))], g)) rfl
            dsimp only at h
            try rw [w32_eq (z := 8 * ((j : Int))) (v := 8 * (j : Int)) (by omega) (by omega) (by omega)] at h
            try rw [w32_eq (z := 99 + (8 * (j : Int))) (v := 99 + 8 * (j : Int)) (by omega) (by omega) (by omega)] at h
            have h := zret zy_199 h rfl rfl
            obtain ⟨e1, e2⟩ := oI h
            have h := hO54
            rw [e1, e2] at h
            clear e1 e2
            clear hO54
            have h := zm zy_206 h 2 (q := (10, darg 0 [(4, 253), (0, (j : Int))], [(0, w32 ((99 + 8 * (j : Int)) + 2)), (4, 254)], g)) rfl
            dsimp only at h
            try rw [w32_eq (z := (99 + 8 * (j : Int)) + 2) (v := 101 + 8 * (j : Int)) (by omega) (by omega) (by omega)] at h
            have h := zald zy_206 h rfl rfl (dvb_254 (i := 101 + 8 * (j : Int)) (by omega) (by omega))
            dsimp only at h
            try rw [show (101 + 8 * (j : Int)).toNat = 101 + 8 * j from by omega] at h
            try rw [hB2] at h
            have h := zret zy_206 h rfl rfl
            obtain ⟨e1, e2⟩ := oI h
            have h := hO51
            rw [e1, e2] at h
            clear e1 e2
            clear hO51
            have h := zm zy_230 h 2 (q := (18, darg 0 [(4, 253), (0, (k : Int)), (0, (j : Int))], [(0, (j : Int)), (4, 253), (0, (Q : Int)), (0, (t : Int)), (0, (q : Int)), (4, 253)], g)) rfl
            dsimp only at h
            obtain ⟨gz55, rz56, hk, h⟩ := zcallI zy_230 h rfl rfl zy_204 zk_204
            dsimp only at hk h
            have hO57 := h
            have h := hk
            clear hk
            have h := zm zy_204 h 3 (q := (5, darg 0 [(4, 253), (0, (j : Int))], [(0, (j : Int)), (4, 254)], g)) rfl
            dsimp only at h
            obtain ⟨gz58, rz59, hk, h⟩ := zcallI zy_204 h rfl rfl zy_199 zk_199
            dsimp only at hk h
            have hO60 := h
            have h := hk
            clear hk
            have h := zm zy_199 h 5 (q := (7, darg 0 [(0, (j : Int))], [(0, w32 (99 + (w32 (8 * ((j : Int))))))], g)) rfl
            dsimp only at h
            try rw [w32_eq (z := 8 * ((j : Int))) (v := 8 * (j : Int)) (by omega) (by omega) (by omega)] at h
            try rw [w32_eq (z := 99 + (8 * (j : Int))) (v := 99 + 8 * (j : Int)) (by omega) (by omega) (by omega)] at h
            have h := zret zy_199 h rfl rfl
            obtain ⟨e1, e2⟩ := oI h
            have h := hO60
            rw [e1, e2] at h
            clear e1 e2
            clear hO60
            have h := zm zy_204 h 2 (q := (10, darg 0 [(4, 253), (0, (j : Int))], [(0, w32 ((99 + 8 * (j : Int)) + 3)), (4, 254)], g)) rfl
            dsimp only at h
            try rw [w32_eq (z := (99 + 8 * (j : Int)) + 3) (v := 102 + 8 * (j : Int)) (by omega) (by omega) (by omega)] at h
            have h := zald zy_204 h rfl rfl (dvb_254 (i := 102 + 8 * (j : Int)) (by omega) (by omega))
            dsimp only at h
            try rw [show (102 + 8 * (j : Int)).toNat = 102 + 8 * j from by omega] at h
            try rw [hB3] at h
            have h := zret zy_204 h rfl rfl
            obtain ⟨e1, e2⟩ := oI h
            have h := hO57
            rw [e1, e2] at h
            clear e1 e2
            clear hO57
            obtain ⟨g_1, r_1, hk, h⟩ := zcallI zy_230 h rfl rfl zy_231 zk_231
            dsimp only at hk h
            refine Or.inr (⟨⟨hc8, hc16, hc24, hc32⟩, ?_⟩)
            refine ⟨g_1, r_1, hk, ?_⟩
            have h := zret zy_230 h rfl rfl
            obtain ⟨e1, e2⟩ := oI h
            have h := hO36
            rw [e1, e2] at h
            clear e1 e2
            clear hO36
            have h := zm zy_330 h 1 (q := (cond (crel .ne r_1 0) 88 84, dset (dset (dset (dset (dset lf 4 (0, (j : Int))) 3 (0, (k : Int))) 2 (0, (m : Int))) 1 (0, (Z : Int))) 0 (4, 253), [(0, (m : Int))], g_1)) rfl
            dsimp only at h
            rcases zif_ne h with ⟨hc61, h⟩ | ⟨hc61, h⟩
            · have h := zm zy_330 h 5 (q := (31, dset (dset (dset (dset (dset (dset (dset lf 4 (0, (j : Int))) 3 (0, (k : Int))) 2 (0, (m : Int))) 1 (0, (Z : Int))) 0 (4, 253)) 2 (0, w32 (((m : Int)) + 0))) 4 (0, w32 (((j : Int)) + 1)), [], g_1)) rfl
              dsimp only at h
              try rw [w32_eq (z := ((m : Int)) + 0) (v := (m : Int)) (by omega) (by omega) (by omega)] at h
              try rw [w32_eq (z := ((j : Int)) + 1) (v := 1 + (j : Int)) (by omega) (by omega) (by omega)] at h
              refine Or.inl (⟨hc61, ?_⟩)
              exact ⟨_, rfl, rfl, rfl, rfl, rfl, h⟩
            · have h := zm zy_330 h 6 (q := (31, dset (dset (dset (dset (dset (dset (dset lf 4 (0, (j : Int))) 3 (0, (k : Int))) 2 (0, (m : Int))) 1 (0, (Z : Int))) 0 (4, 253)) 2 (0, w32 (((m : Int)) + 1))) 4 (0, w32 (((j : Int)) + 1)), [], g_1)) rfl
              dsimp only at h
              try rw [w32_eq (z := ((m : Int)) + 1) (v := 1 + (m : Int)) (by omega) (by omega) (by omega)] at h
              try rw [w32_eq (z := ((j : Int)) + 1) (v := 1 + (j : Int)) (by omega) (by omega) (by omega)] at h
              refine Or.inr (⟨hc61, ?_⟩)
              exact ⟨_, rfl, rfl, rfl, rfl, rfl, h⟩
theorem m_clo_e {sv : Nat → Int32} {L n : Nat} {lf : dlf} {g : cg} {o : cg × Option cv} {Z m k j : Nat} (rZ : Z ≤ 5) (rm : m ≤ 300) (rk : k ≤ 15) (rj : j ≤ 15) (hge : k ≤ j) (h : zr sv L (n + 1) 330 31 lf [] g o) (hl0 : lf 0 = (4, 253)) (hl1 : lf 1 = (0, (Z : Int))) (hl2 : lf 2 = (0, (m : Int))) (hl3 : lf 3 = (0, (k : Int))) (hl4 : lf 4 = (0, (j : Int))) : ∃ lf', lf' 0 = (4, 253) ∧ lf' 1 = (0, (Z : Int)) ∧ lf' 2 = (0, (m : Int)) ∧ lf' 3 = (0, 1 + (k : Int)) ∧ zr sv L n 330 18 lf' [] g o := by
  rw [zov hl0, zov hl1, zov hl2, zov hl3, zov hl4] at h
  have h := zm1 zy_330 h 2 (q := (cond (crel .ge ((j : Int)) ((k : Int))) 97 37, dset (dset (dset (dset (dset lf 4 (0, (j : Int))) 3 (0, (k : Int))) 2 (0, (m : Int))) 1 (0, (Z : Int))) 0 (4, 253), [], g)) rfl
  dsimp only at h
  rcases zif_ge h with ⟨hc1, h⟩ | ⟨hc1, h⟩
  · have h := zm zy_330 h 2 (q := (18, dset (dset (dset (dset (dset (dset lf 4 (0, (j : Int))) 3 (0, (k : Int))) 2 (0, (m : Int))) 1 (0, (Z : Int))) 0 (4, 253)) 3 (0, w32 (((k : Int)) + 1)), [], g)) rfl
    dsimp only at h
    try rw [w32_eq (z := ((k : Int)) + 1) (v := 1 + (k : Int)) (by omega) (by omega) (by omega)] at h
    exact ⟨_, rfl, rfl, rfl, rfl, h⟩
  · exact absurd hc1 (by omega)
theorem t_cbe0 {sv : Nat → Int32} {L n : Nat} {lf : dlf} {g : cg} {o : cg × Option cv} {a b : Int} (h : zr sv L n 319 0 lf [] g o) (hl0 : lf 0 = (4, 0)) (hl1 : lf 1 = (0, a)) (hl2 : lf 2 = (0, b)) : (((a < 0) ∨ (0 ≤ a ∧ g 3 3 ≤ a) ∨ (0 ≤ a ∧ a < g 3 3 ∧ b < 0) ∨ (0 ≤ a ∧ a < g 3 3 ∧ 0 ≤ b ∧ 8 ≤ b)) ∧ (o = (cup g 0 0 1, some (0, (-1))))) ∨ ((0 ≤ a ∧ a < g 3 3 ∧ 0 ≤ b ∧ b < 8) ∧ (∃ g_1 r_1, zr sv L n 111 0 (darg 0 [(4, 102), (0, a), (0, b)]) [] g (g_1, some (0, r_1)) ∧ (o = (cup g_1 0 0 0, some (0, r_1))))) := by
  rw [zov hl0, zov hl1, zov hl2] at h
  have h := zm zy_319 h 3 (q := (3, dset (dset (dset lf 2 (0, b)) 1 (0, a)) 0 (4, 0), [(0, b), (0, a), (4, 0)], g)) rfl
  dsimp only at h
  obtain ⟨gz1, rz2, hk, h⟩ := zcallI zy_319 h rfl rfl zy_110 zk_110
  dsimp only at hk h
  have hO3 := h
  have h := hk
  clear hk
  have h := zm zy_110 h 3 (q := (5, darg 0 [(4, 0), (0, a), (0, b)], [(0, a), (4, 3)], g)) rfl
  dsimp only at h
  obtain ⟨gz4, rz5, hk, h⟩ := zcallI zy_110 h rfl rfl zy_81 zk_81
  dsimp only at hk h
  have hO6 := h
  have h := hk
  clear hk
  have h := zm zy_81 h 2 (q := (cond (crel .lt a 0) 16 4, darg 0 [(4, 3), (0, a)], [], g)) rfl
  dsimp only at h
  rcases zif_lt h with ⟨hc7, h⟩ | ⟨hc7, h⟩
  · have h := zm zy_81 h 1 (q := (17, darg 0 [(4, 3), (0, a)], [(0, 0)], g)) rfl
    dsimp only at h
    have h := zret zy_81 h rfl rfl
    obtain ⟨e1, e2⟩ := oI h
    have h := hO6
    rw [e1, e2] at h
    clear e1 e2
    clear hO6
    have h := zm zy_110 h 2 (q := (23, darg 0 [(4, 0), (0, a), (0, b)], [(0, 0)], g)) rfl
    dsimp only at h
    have h := zret zy_110 h rfl rfl
    obtain ⟨e1, e2⟩ := oI h
    have h := hO3
    rw [e1, e2] at h
    clear e1 e2
    clear hO3
    have h := zm zy_319 h 3 (q := (11, dset (dset (dset lf 2 (0, b)) 1 (0, a)) 0 (4, 0), [(0, 1), (4, 0)], g)) rfl
    dsimp only at h
    obtain ⟨gz8, rz9, hk, h⟩ := zcallI zy_319 h rfl rfl zy_29 zk_29
    dsimp only at hk h
    have hO10 := h
    have h := hk
    clear hk
    have h := zm zy_29 h 4 (q := (6, darg 0 [(4, 0), (0, 1)], [(0, (-1))], cup g 0 0 1)) rfl
    dsimp only at h
    have h := zret zy_29 h rfl rfl
    obtain ⟨e1, e2⟩ := oI h
    have h := hO10
    rw [e1, e2] at h
    clear e1 e2
    clear hO10
    refine Or.inl (⟨Or.inl (hc7), ?_⟩)
    exact zret zy_319 h rfl rfl
  · have h := zm zy_81 h 4 (q := (cond (crel .ge a (g 3 3)) 16 12, darg 0 [(4, 3), (0, a)], [], g)) rfl
    dsimp only at h
    rcases zif_ge h with ⟨hc11, h⟩ | ⟨hc11, h⟩
    · have h := zm zy_81 h 1 (q := (17, darg 0 [(4, 3), (0, a)], [(0, 0)], g)) rfl
      dsimp only at h
      have h := zret zy_81 h rfl rfl
      obtain ⟨e1, e2⟩ := oI h
      have h := hO6
      rw [e1, e2] at h
      clear e1 e2
      clear hO6
      have h := zm zy_110 h 2 (q := (23, darg 0 [(4, 0), (0, a), (0, b)], [(0, 0)], g)) rfl
      dsimp only at h
      have h := zret zy_110 h rfl rfl
      obtain ⟨e1, e2⟩ := oI h
      have h := hO3
      rw [e1, e2] at h
      clear e1 e2
      clear hO3
      have h := zm zy_319 h 3 (q := (11, dset (dset (dset lf 2 (0, b)) 1 (0, a)) 0 (4, 0), [(0, 1), (4, 0)], g)) rfl
      dsimp only at h
      obtain ⟨gz12, rz13, hk, h⟩ := zcallI zy_319 h rfl rfl zy_29 zk_29
      dsimp only at hk h
      have hO14 := h
      have h := hk
      clear hk
      have h := zm zy_29 h 4 (q := (6, darg 0 [(4, 0), (0, 1)], [(0, (-1))], cup g 0 0 1)) rfl
      dsimp only at h
      have h := zret zy_29 h rfl rfl
      obtain ⟨e1, e2⟩ := oI h
      have h := hO14
      rw [e1, e2] at h
      clear e1 e2
      clear hO14
      refine Or.inl (⟨Or.inr (Or.inl (⟨hc7, hc11⟩)), ?_⟩)
      exact zret zy_319 h rfl rfl
    · have h := zm zy_81 h 2 (q := (17, darg 0 [(4, 3), (0, a)], [(0, 1)], g)) rfl
      dsimp only at h
      have h := zret zy_81 h rfl rfl
      obtain ⟨e1, e2⟩ := oI h
      have h := hO6
      rw [e1, e2] at h
      clear e1 e2
      clear hO6
      have h := zm zy_110 h 2 (q := (12, darg 0 [(4, 0), (0, a), (0, b)], [(0, b)], g)) rfl
      dsimp only at h
      obtain ⟨gz15, rz16, hk, h⟩ := zcallI zy_110 h rfl rfl zy_86 zk_86
      dsimp only at hk h
      have hO17 := h
      have h := hk
      clear hk
      have h := zm zy_86 h 2 (q := (cond (crel .lt b 0) 14 4, darg 0 [(0, b)], [], g)) rfl
      dsimp only at h
      rcases zif_lt h with ⟨hc18, h⟩ | ⟨hc18, h⟩
      · have h := zm zy_86 h 1 (q := (15, darg 0 [(0, b)], [(0, 0)], g)) rfl
        dsimp only at h
        have h := zret zy_86 h rfl rfl
        obtain ⟨e1, e2⟩ := oI h
        have h := hO17
        rw [e1, e2] at h
        clear e1 e2
        clear hO17
        have h := zm zy_110 h 2 (q := (23, darg 0 [(4, 0), (0, a), (0, b)], [(0, 0)], g)) rfl
        dsimp only at h
        have h := zret zy_110 h rfl rfl
        obtain ⟨e1, e2⟩ := oI h
        have h := hO3
        rw [e1, e2] at h
        clear e1 e2
        clear hO3
        have h := zm zy_319 h 3 (q := (11, dset (dset (dset lf 2 (0, b)) 1 (0, a)) 0 (4, 0), [(0, 1), (4, 0)], g)) rfl
        dsimp only at h
        obtain ⟨gz19, rz20, hk, h⟩ := zcallI zy_319 h rfl rfl zy_29 zk_29
        dsimp only at hk h
        have hO21 := h
        have h := hk
        clear hk
        have h := zm zy_29 h 4 (q := (6, darg 0 [(4, 0), (0, 1)], [(0, (-1))], cup g 0 0 1)) rfl
        dsimp only at h
        have h := zret zy_29 h rfl rfl
        obtain ⟨e1, e2⟩ := oI h
        have h := hO21
        rw [e1, e2] at h
        clear e1 e2
        clear hO21
        refine Or.inl (⟨Or.inr (Or.inr (Or.inl (⟨hc7, hc11, hc18⟩))), ?_⟩)
        exact zret zy_319 h rfl rfl
      · have h := zm zy_86 h 3 (q := (cond (crel .ge b 8) 14 10, darg 0 [(0, b)], [], g)) rfl
        dsimp only at h
        rcases zif_ge h with ⟨hc22, h⟩ | ⟨hc22, h⟩
        · have h := zm zy_86 h 1 (q := (15, darg 0 [(0, b)], [(0, 0)], g)) rfl
          dsimp only at h
          have h := zret zy_86 h rfl rfl
          obtain ⟨e1, e2⟩ := oI h
          have h := hO17
          rw [e1, e2] at h
          clear e1 e2
          clear hO17
          have h := zm zy_110 h 2 (q := (23, darg 0 [(4, 0), (0, a), (0, b)], [(0, 0)], g)) rfl
          dsimp only at h
          have h := zret zy_110 h rfl rfl
          obtain ⟨e1, e2⟩ := oI h
          have h := hO3
          rw [e1, e2] at h
          clear e1 e2
          clear hO3
          have h := zm zy_319 h 3 (q := (11, dset (dset (dset lf 2 (0, b)) 1 (0, a)) 0 (4, 0), [(0, 1), (4, 0)], g)) rfl
          dsimp only at h
          obtain ⟨gz23, rz24, hk, h⟩ := zcallI zy_319 h rfl rfl zy_29 zk_29
          dsimp only at hk h
          have hO25 := h
          have h := hk
          clear hk
          have h := zm zy_29 h 4 (q := (6, darg 0 [(4, 0), (0, 1)], [(0, (-1))], cup g 0 0 1)) rfl
          dsimp only at h
          have h := zret zy_29 h rfl rfl
          obtain ⟨e1, e2⟩ := oI h
          have h := hO25
          rw [e1, e2] at h
          clear e1 e2
          clear hO25
          refine Or.inl (⟨Or.inr (Or.inr (Or.inr (⟨hc7, hc11, hc18, hc22⟩))), ?_⟩)
          exact zret zy_319 h rfl rfl
        · have h := zm zy_86 h 2 (q := (15, darg 0 [(0, b)], [(0, 1)], g)) rfl
          dsimp only at h
          have h := zret zy_86 h rfl rfl
          obtain ⟨e1, e2⟩ := oI h
          have h := hO17
          rw [e1, e2] at h
          clear e1 e2
          clear hO17
          have h := zm zy_110 h 3 (q := (23, darg 0 [(4, 0), (0, a), (0, b)], [(0, 1)], g)) rfl
          dsimp only at h
          have h := zret zy_110 h rfl rfl
          obtain ⟨e1, e2⟩ := oI h
          have h := hO3
          rw [e1, e2] at h
          clear e1 e2
          clear hO3
          have h := zm zy_319 h 6 (q := (22, dset (dset (dset lf 2 (0, b)) 1 (0, a)) 0 (4, 0), [(0, b), (0, a), (4, 102), (4, 0)], g)) rfl
          dsimp only at h
          obtain ⟨g_1, r_1, hk, h⟩ := zcallI zy_319 h rfl rfl zy_111 zk_111
          dsimp only at hk h
          refine Or.inr (⟨⟨hc7, hc11, hc18, hc22⟩, ?_⟩)
          refine ⟨g_1, r_1, hk, ?_⟩
          obtain ⟨gz26, rz27, hk, h⟩ := zcallI zy_319 h rfl rfl zy_64 zk_64
          dsimp only at hk h
          have hO28 := h
          have h := hk
          clear hk
          have h := zm zy_64 h 4 (q := (6, darg 0 [(4, 0), (0, r_1)], [(0, r_1)], cup g_1 0 0 0)) rfl
          dsimp only at h
          have h := zret zy_64 h rfl rfl
          obtain ⟨e1, e2⟩ := oI h
          have h := hO28
          rw [e1, e2] at h
          clear e1 e2
          clear hO28
          exact zret zy_319 h rfl rfl
theorem t_wft0 {sv : Nat → Int32} {L n : Nat} {lf : dlf} {g : cg} {o : cg × Option cv} {P T : Nat} (rP : P ≤ 5) (rT : T ≤ 7) (h : zr sv L n 111 0 lf [] g o) (hl0 : lf 0 = (4, 102)) (hl1 : lf 1 = (0, (P : Int))) (hl2 : lf 2 = (0, (T : Int))) : ∃ lf', lf' 0 = (4, 102) ∧ lf' 1 = (0, (P : Int)) ∧ lf' 2 = (0, (T : Int)) ∧ lf' 3 = (0, 0) ∧ lf' 4 = (0, 0) ∧ zr sv L n 111 5 lf' [] g o := by
  rw [zov hl0, zov hl1, zov hl2] at h
  have h := zm zy_111 h 4 (q := (5, dset (dset (dset (dset (dset lf 2 (0, (T : Int))) 1 (0, (P : Int))) 0 (4, 102)) 3 (0, 0)) 4 (0, 0), [], g)) rfl
  dsimp only at h
  exact ⟨_, rfl, rfl, rfl, rfl, rfl, h⟩
theorem t_wft_s {sv : Nat → Int32} {L n : Nat} {lf : dlf} {g : cg} {o : cg × Option cv} {P T k N : Nat} {u : Int} (rP : P ≤ 5) (rT : T ≤ 7) (rk : k ≤ 4) (rN : N ≤ 5) (hQ : g 3 0 = (N : Int)) (hlt : k < N) (h : zr sv L (n + 1) 111 5 lf [] g o) (hl0 : lf 0 = (4, 102)) (hl1 : lf 1 = (0, (P : Int))) (hl2 : lf 2 = (0, (T : Int))) (hl3 : lf 3 = (0, u)) (hl4 : lf 4 = (0, (k : Int))) : ∃ g_1 r_1, zr sv L n 112 0 (darg 0 [(4, 102), (0, (P : Int)), (0, (k : Int)), (0, (T : Int))]) [] g (g_1, some (0, r_1)) ∧ (((r_1 = 0) ∧ (∃ lf', lf' 0 = (4, 102) ∧ lf' 1 = (0, (P : Int)) ∧ lf' 2 = (0, (T : Int)) ∧ lf' 3 = (0, u) ∧ lf' 4 = (0, 1 + (k : Int)) ∧ zr sv L n 111 5 lf' [] g_1 o)) ∨ ((r_1 ≠ 0) ∧ (∃ g_2 r_2, zr sv L n 113 0 (darg 0 [(4, 102), (0, (P : Int)), (0, (k : Int)), (0, (T : Int))]) [] g_1 (g_2, some (0, r_2)) ∧ (((r_2 = 0) ∧ (∃ lf', lf' 0 = (4, 102) ∧ lf' 1 = (0, (P : Int)) ∧ lf' 2 = (0, (T : Int)) ∧ lf' 3 = (0, u) ∧ lf' 4 = (0, 1 + (k : Int)) ∧ zr sv L n 111 5 lf' [] g_2 o)) ∨ ((r_2 ≠ 0) ∧ (∃ lf', lf' 0 = (4, 102) ∧ lf' 1 = (0, (P : Int)) ∧ lf' 2 = (0, (T : Int)) ∧ lf' 3 = (0, bor u (bsl 1 ((k : Int)))) ∧ lf' 4 = (0, 1 + (k : Int)) ∧ zr sv L n 111 5 lf' [] g_2 o)))))) := by
  rw [zov hl0, zov hl1, zov hl2, zov hl3, zov hl4] at h
  have h := zm1 zy_111 h 4 (q := (cond (crel .ge ((k : Int)) (g 3 0)) 52 17, dset (dset (dset (dset (dset lf 4 (0, (k : Int))) 3 (0, u)) 2 (0, (T : Int))) 1 (0, (P : Int))) 0 (4, 102), [], g)) rfl
  dsimp only at h
  try rw [hQ] at h
  rcases zif_ge h with ⟨hc1, h⟩ | ⟨hc1, h⟩
  · exact absurd hc1 (by omega)
  · have h := zm zy_111 h 4 (q := (22, dset (dset (dset (dset (dset lf 4 (0, (k : Int))) 3 (0, u)) 2 (0, (T : Int))) 1 (0, (P : Int))) 0 (4, 102), [(0, (T : Int)), (0, (k : Int)), (0, (P : Int)), (4, 102)], g)) rfl
    dsimp only at h
    obtain ⟨g_1, r_1, hk, h⟩ := zcallI zy_111 h rfl rfl zy_112 zk_112
    dsimp only at hk h
    refine ⟨g_1, r_1, hk, ?_⟩
    have h := zm zy_111 h 1 (q := (cond (crel .eq r_1 0) 46 28, dset (dset (dset (dset (dset lf 4 (0, (k : Int))) 3 (0, u)) 2 (0, (T : Int))) 1 (0, (P : Int))) 0 (4, 102), [], g_1)) rfl
    dsimp only at h
    rcases zif_eq h with ⟨hc2, h⟩ | ⟨hc2, h⟩
    · have h := zm zy_111 h 2 (q := (5, dset (dset (dset (dset (dset (dset lf 4 (0, (k : Int))) 3 (0, u)) 2 (0, (T : Int))) 1 (0, (P : Int))) 0 (4, 102)) 4 (0, w32 (((k : Int)) + 1)), [], g_1)) rfl
      dsimp only at h
      try rw [w32_eq (z := ((k : Int)) + 1) (v := 1 + (k : Int)) (by omega) (by omega) (by omega)] at h
      refine Or.inl (⟨hc2, ?_⟩)
      exact ⟨_, rfl, rfl, rfl, rfl, rfl, h⟩
    · have h := zm zy_111 h 4 (q := (33, dset (dset (dset (dset (dset lf 4 (0, (k : Int))) 3 (0, u)) 2 (0, (T : Int))) 1 (0, (P : Int))) 0 (4, 102), [(0, (T : Int)), (0, (k : Int)), (0, (P : Int)), (4, 102)], g_1)) rfl
      dsimp only at h
      obtain ⟨g_2, r_2, hk, h⟩ := zcallI zy_111 h rfl rfl zy_113 zk_113
      dsimp only at hk h
      refine Or.inr (⟨hc2, ?_⟩)
      refine ⟨g_2, r_2, hk, ?_⟩
      have h := zm zy_111 h 1 (q := (cond (crel .eq r_2 0) 46 39, dset (dset (dset (dset (dset lf 4 (0, (k : Int))) 3 (0, u)) 2 (0, (T : Int))) 1 (0, (P : Int))) 0 (4, 102), [], g_2)) rfl
      dsimp only at h
      rcases zif_eq h with ⟨hc4, h⟩ | ⟨hc4, h⟩
      · have h := zm zy_111 h 2 (q := (5, dset (dset (dset (dset (dset (dset lf 4 (0, (k : Int))) 3 (0, u)) 2 (0, (T : Int))) 1 (0, (P : Int))) 0 (4, 102)) 4 (0, w32 (((k : Int)) + 1)), [], g_2)) rfl
        dsimp only at h
        try rw [w32_eq (z := ((k : Int)) + 1) (v := 1 + (k : Int)) (by omega) (by omega) (by omega)] at h
        refine Or.inl (⟨hc4, ?_⟩)
        exact ⟨_, rfl, rfl, rfl, rfl, rfl, h⟩
      · have h := zm zy_111 h 8 (q := (5, dset (dset (dset (dset (dset (dset (dset lf 4 (0, (k : Int))) 3 (0, u)) 2 (0, (T : Int))) 1 (0, (P : Int))) 0 (4, 102)) 3 (0, bor u (bsl 1 ((k : Int))))) 4 (0, w32 (((k : Int)) + 1)), [], g_2)) rfl
        dsimp only at h
        try rw [w32_eq (z := ((k : Int)) + 1) (v := 1 + (k : Int)) (by omega) (by omega) (by omega)] at h
        refine Or.inr (⟨hc4, ?_⟩)
        exact ⟨_, rfl, rfl, rfl, rfl, rfl, h⟩
theorem t_wft_e {sv : Nat → Int32} {L n : Nat} {lf : dlf} {g : cg} {o : cg × Option cv} {P T k N : Nat} {u : Int} (rP : P ≤ 5) (rT : T ≤ 7) (rk : k ≤ 5) (rN : N ≤ 5) (hQ : g 3 0 = (N : Int)) (hge : N ≤ k) (h : zr sv L (n + 1) 111 5 lf [] g o) (hl0 : lf 0 = (4, 102)) (hl1 : lf 1 = (0, (P : Int))) (hl2 : lf 2 = (0, (T : Int))) (hl3 : lf 3 = (0, u)) (hl4 : lf 4 = (0, (k : Int))) : o = (g, some (0, u)) := by
  rw [zov hl0, zov hl1, zov hl2, zov hl3, zov hl4] at h
  have h := zm1 zy_111 h 4 (q := (cond (crel .ge ((k : Int)) (g 3 0)) 52 17, dset (dset (dset (dset (dset lf 4 (0, (k : Int))) 3 (0, u)) 2 (0, (T : Int))) 1 (0, (P : Int))) 0 (4, 102), [], g)) rfl
  dsimp only at h
  try rw [hQ] at h
  rcases zif_ge h with ⟨hc1, h⟩ | ⟨hc1, h⟩
  · have h := zm zy_111 h 1 (q := (53, dset (dset (dset (dset (dset lf 4 (0, (k : Int))) 3 (0, u)) 2 (0, (T : Int))) 1 (0, (P : Int))) 0 (4, 102), [(0, u)], g)) rfl
    dsimp only at h
    exact zret zy_111 h rfl rfl
  · exact absurd hc1 (by omega)
theorem t_ftr0 {sv : Nat → Int32} {L n : Nat} {lf : dlf} {g : cg} {o : cg × Option cv} {P Q T : Nat} (rP : P ≤ 5) (rQ : Q ≤ 4) (rT : T ≤ 7) (h : zr sv L n 112 0 lf [] g o) (hl0 : lf 0 = (4, 102)) (hl1 : lf 1 = (0, (P : Int))) (hl2 : lf 2 = (0, (Q : Int))) (hl3 : lf 3 = (0, (T : Int))) : ∃ lf', lf' 0 = (4, 102) ∧ lf' 1 = (0, (P : Int)) ∧ lf' 2 = (0, (Q : Int)) ∧ lf' 3 = (0, (T : Int)) ∧ lf' 4 = (0, 0) ∧ zr sv L n 112 3 lf' [] g o := by
  rw [zov hl0, zov hl1, zov hl2, zov hl3] at h
  have h := zm zy_112 h 2 (q := (3, dset (dset (dset (dset (dset lf 3 (0, (T : Int))) 2 (0, (Q : Int))) 1 (0, (P : Int))) 0 (4, 102)) 4 (0, 0), [], g)) rfl
  dsimp only at h
  exact ⟨_, rfl, rfl, rfl, rfl, rfl, h⟩
theorem t_ftr_s {sv : Nat → Int32} {L n : Nat} {lf : dlf} {g : cg} {o : cg × Option cv} {P Q T k : Nat} {v : Int} (rP : P ≤ 5) (rQ : Q ≤ 4) (rT : T ≤ 7) (rk : k ≤ 7) (hv : g (18 + 2 * P) k = v) (h : zr sv L (n + 1) 112 3 lf [] g o) (hl0 : lf 0 = (4, 102)) (hl1 : lf 1 = (0, (P : Int))) (hl2 : lf 2 = (0, (Q : Int))) (hl3 : lf 3 = (0, (T : Int))) (hl4 : lf 4 = (0, (k : Int))) : ((v = (-1)) ∧ (∃ lf', lf' 0 = (4, 102) ∧ lf' 1 = (0, (P : Int)) ∧ lf' 2 = (0, (Q : Int)) ∧ lf' 3 = (0, (T : Int)) ∧ lf' 4 = (0, 1 + (k : Int)) ∧ zr sv L n 112 3 lf' [] g o)) ∨ ((v ≠ (-1)) ∧ (∃ g_1 r_1, zr sv L n 101 0 (darg 0 [(4, 3), (0, (Q : Int)), (0, (T : Int)), (0, v), (0, (k : Int))]) [] g (g_1, some (0, r_1)) ∧ (((r_1 ≠ 0) ∧ (∃ lf', lf' 0 = (4, 102) ∧ lf' 1 = (0, (P : Int)) ∧ lf' 2 = (0, (Q : Int)) ∧ lf' 3 = (0, (T : Int)) ∧ lf' 4 = (0, 1 + (k : Int)) ∧ zr sv L n 112 3 lf' [] g_1 o)) ∨ ((r_1 = 0) ∧ (o = (g_1, some (0, 0))))))) := by
  rw [zov hl0, zov hl1, zov hl2, zov hl3, zov hl4] at h
  have h := zm1 zy_112 h 2 (q := (cond (crel .ge ((k : Int)) 8) 57 10, dset (dset (dset (dset (dset lf 4 (0, (k : Int))) 3 (0, (T : Int))) 2 (0, (Q : Int))) 1 (0, (P : Int))) 0 (4, 102), [], g)) rfl
  dsimp only at h
  rcases zif_ge h with ⟨hc1, h⟩ | ⟨hc1, h⟩
  · exact absurd hc1 (by omega)
  · have h := zm zy_112 h 4 (q := (18, dset (dset (dset (dset (dset lf 4 (0, (k : Int))) 3 (0, (T : Int))) 2 (0, (Q : Int))) 1 (0, (P : Int))) 0 (4, 102), [(0, (P : Int)), (4, 6)], g)) rfl
    dsimp only at h
    have h := zald zy_112 h rfl rfl (dvp_6 (i := (P : Int)) (by omega) (by omega))
    dsimp only at h
    have h := zgf zy_112 h rfl rfl (dvf_17_6 (i := (P : Int)) (by omega) (by omega))
    have h := zm zy_112 h 1 (q := (24, dset (dset (dset (dset (dset lf 4 (0, (k : Int))) 3 (0, (T : Int))) 2 (0, (Q : Int))) 1 (0, (P : Int))) 0 (4, 102), [(0, (k : Int)), (4, 18 + 2 * ((P : Int)))], g)) rfl
    dsimp only at h
    have h := zald zy_112 h rfl rfl (dvr_18 (i := (P : Int)) (j := (k : Int)) (by omega) (by omega) (by omega) (by omega))
    dsimp only at h
    try rw [show (18 + 2 * ((P : Int))).toNat = 18 + 2 * P from by omega] at h
    try rw [show ((k : Int)).toNat = k from by omega] at h
    try rw [hv] at h
    have h := zm zy_112 h 4 (q := (cond (crel .eq v ((-1))) 51 33, dset (dset (dset (dset (dset (dset lf 4 (0, (k : Int))) 3 (0, (T : Int))) 2 (0, (Q : Int))) 1 (0, (P : Int))) 0 (4, 102)) 5 (0, v), [], g)) rfl
    dsimp only at h
    rcases zif_eq h with ⟨hc2, h⟩ | ⟨hc2, h⟩
    · have h := zm zy_112 h 2 (q := (3, dset (dset (dset (dset (dset (dset (dset lf 4 (0, (k : Int))) 3 (0, (T : Int))) 2 (0, (Q : Int))) 1 (0, (P : Int))) 0 (4, 102)) 5 (0, v)) 4 (0, w32 (((k : Int)) + 1)), [], g)) rfl
      dsimp only at h
      try rw [w32_eq (z := ((k : Int)) + 1) (v := 1 + (k : Int)) (by omega) (by omega) (by omega)] at h
      refine Or.inl (⟨hc2, ?_⟩)
      exact ⟨_, rfl, rfl, rfl, rfl, rfl, h⟩
    · have h := zm zy_112 h 6 (q := (43, dset (dset (dset (dset (dset (dset lf 4 (0, (k : Int))) 3 (0, (T : Int))) 2 (0, (Q : Int))) 1 (0, (P : Int))) 0 (4, 102)) 5 (0, v), [(0, (k : Int)), (0, v), (0, (T : Int)), (0, (Q : Int)), (4, 3)], g)) rfl
      dsimp only at h
      obtain ⟨g_1, r_1, hk, h⟩ := zcallI zy_112 h rfl rfl zy_101 zk_101
      dsimp only at hk h
      refine Or.inr (⟨hc2, ?_⟩)
      refine ⟨g_1, r_1, hk, ?_⟩
      have h := zm zy_112 h 1 (q := (cond (crel .ne r_1 0) 51 49, dset (dset (dset (dset (dset (dset lf 4 (0, (k : Int))) 3 (0, (T : Int))) 2 (0, (Q : Int))) 1 (0, (P : Int))) 0 (4, 102)) 5 (0, v), [], g_1)) rfl
      dsimp only at h
      rcases zif_ne h with ⟨hc4, h⟩ | ⟨hc4, h⟩
      · have h := zm zy_112 h 2 (q := (3, dset (dset (dset (dset (dset (dset (dset lf 4 (0, (k : Int))) 3 (0, (T : Int))) 2 (0, (Q : Int))) 1 (0, (P : Int))) 0 (4, 102)) 5 (0, v)) 4 (0, w32 (((k : Int)) + 1)), [], g_1)) rfl
        dsimp only at h
        try rw [w32_eq (z := ((k : Int)) + 1) (v := 1 + (k : Int)) (by omega) (by omega) (by omega)] at h
        refine Or.inl (⟨hc4, ?_⟩)
        exact ⟨_, rfl, rfl, rfl, rfl, rfl, h⟩
      · have h := zm zy_112 h 1 (q := (50, dset (dset (dset (dset (dset (dset lf 4 (0, (k : Int))) 3 (0, (T : Int))) 2 (0, (Q : Int))) 1 (0, (P : Int))) 0 (4, 102)) 5 (0, v), [(0, 0)], g_1)) rfl
        dsimp only at h
        refine Or.inr (⟨hc4, ?_⟩)
        exact zret zy_112 h rfl rfl
theorem t_ftr_e {sv : Nat → Int32} {L n : Nat} {lf : dlf} {g : cg} {o : cg × Option cv} {P Q T : Nat} (rP : P ≤ 5) (rQ : Q ≤ 4) (rT : T ≤ 7) (h : zr sv L (n + 1) 112 3 lf [] g o) (hl0 : lf 0 = (4, 102)) (hl1 : lf 1 = (0, (P : Int))) (hl2 : lf 2 = (0, (Q : Int))) (hl3 : lf 3 = (0, (T : Int))) (hl4 : lf 4 = (0, 8)) : o = (g, some (0, 1)) := by
  rw [zov hl0, zov hl1, zov hl2, zov hl3, zov hl4] at h
  have h := zm1 zy_112 h 3 (q := (58, dset (dset (dset (dset (dset lf 4 (0, 8)) 3 (0, (T : Int))) 2 (0, (Q : Int))) 1 (0, (P : Int))) 0 (4, 102), [(0, 1)], g)) rfl
  dsimp only at h
  exact zret zy_112 h rfl rfl
theorem t_fto0 {sv : Nat → Int32} {L n : Nat} {lf : dlf} {g : cg} {o : cg × Option cv} {P Q T : Nat} (rP : P ≤ 5) (rQ : Q ≤ 4) (rT : T ≤ 7) (h : zr sv L n 113 0 lf [] g o) (hl0 : lf 0 = (4, 102)) (hl1 : lf 1 = (0, (P : Int))) (hl2 : lf 2 = (0, (Q : Int))) (hl3 : lf 3 = (0, (T : Int))) : ∃ lf', lf' 0 = (4, 102) ∧ lf' 1 = (0, (P : Int)) ∧ lf' 2 = (0, (Q : Int)) ∧ lf' 3 = (0, (T : Int)) ∧ lf' 4 = (0, 0) ∧ zr sv L n 113 3 lf' [] g o := by
  rw [zov hl0, zov hl1, zov hl2, zov hl3] at h
  have h := zm zy_113 h 2 (q := (3, dset (dset (dset (dset (dset lf 3 (0, (T : Int))) 2 (0, (Q : Int))) 1 (0, (P : Int))) 0 (4, 102)) 4 (0, 0), [], g)) rfl
  dsimp only at h
  exact ⟨_, rfl, rfl, rfl, rfl, rfl, h⟩
theorem t_fto_s {sv : Nat → Int32} {L n : Nat} {lf : dlf} {g : cg} {o : cg × Option cv} {P Q T w p q t k N : Nat} {f s b : Int} (rP : P ≤ 5) (rQ : Q ≤ 4) (rT : T ≤ 7) (rw : w ≤ 5) (rp : p ≤ 5) (rq : q ≤ 4) (rt : t ≤ 7) (rk : k ≤ 15) (rN : N ≤ 16) (hN : g 3 9 = (N : Int)) (hO : OHC g k w p q t f s b) (hlt : k < N) (h : zr sv L (n + 1) 113 3 lf [] g o) (hl0 : lf 0 = (4, 102)) (hl1 : lf 1 = (0, (P : Int))) (hl2 : lf 2 = (0, (Q : Int))) (hl3 : lf 3 = (0, (T : Int))) (hl4 : lf 4 = (0, (k : Int))) : (((s ≠ 0) ∨ (s = 0 ∧ (p : Int) ≠ (P : Int))) ∧ (∃ lf', lf' 0 = (4, 102) ∧ lf' 1 = (0, (P : Int)) ∧ lf' 2 = (0, (Q : Int)) ∧ lf' 3 = (0, (T : Int)) ∧ lf' 4 = (0, 1 + (k : Int)) ∧ zr sv L n 113 3 lf' [] g o)) ∨ ((s = 0 ∧ (p : Int) = (P : Int)) ∧ (∃ g_1 r_1, zr sv L n 101 0 (darg 0 [(4, 3), (0, (Q : Int)), (0, (T : Int)), (0, (q : Int)), (0, (t : Int))]) [] g (g_1, some (0, r_1)) ∧ (((r_1 ≠ 0) ∧ (∃ lf', lf' 0 = (4, 102) ∧ lf' 1 = (0, (P : Int)) ∧ lf' 2 = (0, (Q : Int)) ∧ lf' 3 = (0, (T : Int)) ∧ lf' 4 = (0, 1 + (k : Int)) ∧ zr sv L n 113 3 lf' [] g_1 o)) ∨ ((r_1 = 0) ∧ (o = (g_1, some (0, 0))))))) := by
  rw [zov hl0, zov hl1, zov hl2, zov hl3, zov hl4] at h
  have h := zm1 zy_113 h 4 (q := (cond (crel .ge ((k : Int)) (g 3 9)) 66 15, dset (dset (dset (dset (dset lf 4 (0, (k : Int))) 3 (0, (T : Int))) 2 (0, (Q : Int))) 1 (0, (P : Int))) 0 (4, 102), [], g)) rfl
  dsimp only at h
  try rw [hN] at h
  rcases zif_ge h with ⟨hc1, h⟩ | ⟨hc1, h⟩
  · exact absurd hc1 (by omega)
  · have h := zm zy_113 h 4 (q := (24, dset (dset (dset (dset (dset lf 4 (0, (k : Int))) 3 (0, (T : Int))) 2 (0, (Q : Int))) 1 (0, (P : Int))) 0 (4, 102), [(0, (k : Int)), (4, 7)], g)) rfl
    dsimp only at h
    have h := zald zy_113 h rfl rfl (dvp_7 (i := (k : Int)) (by omega) (by omega))
    dsimp only at h
    have h := zm zy_113 h 3 (q := (30, dset (dset (dset (dset (dset (dset lf 4 (0, (k : Int))) 3 (0, (T : Int))) 2 (0, (Q : Int))) 1 (0, (P : Int))) 0 (4, 102)) 5 (4, 29 + ((k : Int))), [(0, (P : Int)), (4, 29 + ((k : Int)))], g)) rfl
    dsimp only at h
    obtain ⟨gz2, rz3, hk, h⟩ := zcallI zy_113 h rfl rfl zy_92 zk_92
    dsimp only at hk h
    have hO4 := h
    have h := hk
    clear hk
    have h := zm zy_92 h 1 (q := (1, darg 0 [(4, 29 + ((k : Int))), (0, (P : Int))], [(4, 29 + ((k : Int)))], g)) rfl
    dsimp only at h
    have h := zgf zy_92 h rfl rfl (dvf_29_5 (i := (k : Int)) (by omega) (by omega))
    dsimp only at h
    try rw [show (29 + ((k : Int))).toNat = 29 + k from by omega] at h
    try rw [hO.2.2.2.2.2.1] at h
    have h := zm zy_92 h 1 (q := (cond (crel .ne s 0) 19 7, darg 0 [(4, 29 + ((k : Int))), (0, (P : Int))], [], g)) rfl
    dsimp only at h
    rcases zif_ne h with ⟨hc5, h⟩ | ⟨hc5, h⟩
    · have h := zm zy_92 h 1 (q := (20, darg 0 [(4, 29 + ((k : Int))), (0, (P : Int))], [(0, 0)], g)) rfl
      dsimp only at h
      have h := zret zy_92 h rfl rfl
      obtain ⟨e1, e2⟩ := oI h
      have h := hO4
      rw [e1, e2] at h
      clear e1 e2
      clear hO4
      have h := zm zy_113 h 3 (q := (3, dset (dset (dset (dset (dset (dset (dset lf 4 (0, (k : Int))) 3 (0, (T : Int))) 2 (0, (Q : Int))) 1 (0, (P : Int))) 0 (4, 102)) 5 (4, 29 + ((k : Int)))) 4 (0, w32 (((k : Int)) + 1)), [], g)) rfl
      dsimp only at h
      try rw [w32_eq (z := ((k : Int)) + 1) (v := 1 + (k : Int)) (by omega) (by omega) (by omega)] at h
      refine Or.inl (⟨Or.inl (hc5), ?_⟩)
      exact ⟨_, rfl, rfl, rfl, rfl, rfl, h⟩
    · have h := zm zy_92 h 1 (q := (8, darg 0 [(4, 29 + ((k : Int))), (0, (P : Int))], [(4, 29 + ((k : Int)))], g)) rfl
      dsimp only at h
      have h := zgf zy_92 h rfl rfl (dvf_29_1 (i := (k : Int)) (by omega) (by omega))
      dsimp only at h
      try rw [show (29 + ((k : Int))).toNat = 29 + k from by omega] at h
      try rw [hO.2.1] at h
      have h := zm zy_92 h 2 (q := (cond (crel .ne ((p : Int)) ((P : Int))) 19 15, darg 0 [(4, 29 + ((k : Int))), (0, (P : Int))], [], g)) rfl
      dsimp only at h
      rcases zif_ne h with ⟨hc7, h⟩ | ⟨hc7, h⟩
      · have h := zm zy_92 h 1 (q := (20, darg 0 [(4, 29 + ((k : Int))), (0, (P : Int))], [(0, 0)], g)) rfl
        dsimp only at h
        have h := zret zy_92 h rfl rfl
        obtain ⟨e1, e2⟩ := oI h
        have h := hO4
        rw [e1, e2] at h
        clear e1 e2
        clear hO4
        have h := zm zy_113 h 3 (q := (3, dset (dset (dset (dset (dset (dset (dset lf 4 (0, (k : Int))) 3 (0, (T : Int))) 2 (0, (Q : Int))) 1 (0, (P : Int))) 0 (4, 102)) 5 (4, 29 + ((k : Int)))) 4 (0, w32 (((k : Int)) + 1)), [], g)) rfl
        dsimp only at h
        try rw [w32_eq (z := ((k : Int)) + 1) (v := 1 + (k : Int)) (by omega) (by omega) (by omega)] at h
        refine Or.inl (⟨Or.inr (⟨hc5, hc7⟩), ?_⟩)
        exact ⟨_, rfl, rfl, rfl, rfl, rfl, h⟩
      · have h := zm zy_92 h 2 (q := (20, darg 0 [(4, 29 + ((k : Int))), (0, (P : Int))], [(0, 1)], g)) rfl
        dsimp only at h
        have h := zret zy_92 h rfl rfl
        obtain ⟨e1, e2⟩ := oI h
        have h := hO4
        rw [e1, e2] at h
        clear e1 e2
        clear hO4
        have h := zm zy_113 h 6 (q := (44, dset (dset (dset (dset (dset (dset lf 4 (0, (k : Int))) 3 (0, (T : Int))) 2 (0, (Q : Int))) 1 (0, (P : Int))) 0 (4, 102)) 5 (4, 29 + ((k : Int))), [(4, 29 + ((k : Int))), (0, (T : Int)), (0, (Q : Int)), (4, 3)], g)) rfl
        dsimp only at h
        have h := zgf zy_113 h rfl rfl (dvf_29_2 (i := (k : Int)) (by omega) (by omega))
        dsimp only at h
        try rw [show (29 + ((k : Int))).toNat = 29 + k from by omega] at h
        try rw [hO.2.2.1] at h
        have h := zm zy_113 h 1 (q := (49, dset (dset (dset (dset (dset (dset lf 4 (0, (k : Int))) 3 (0, (T : Int))) 2 (0, (Q : Int))) 1 (0, (P : Int))) 0 (4, 102)) 5 (4, 29 + ((k : Int))), [(4, 29 + ((k : Int))), (0, (q : Int)), (0, (T : Int)), (0, (Q : Int)), (4, 3)], g)) rfl
        dsimp only at h
        have h := zgf zy_113 h rfl rfl (dvf_29_3 (i := (k : Int)) (by omega) (by omega))
        dsimp only at h
        try rw [show (29 + ((k : Int))).toNat = 29 + k from by omega] at h
        try rw [hO.2.2.2.1] at h
        obtain ⟨g_1, r_1, hk, h⟩ := zcallI zy_113 h rfl rfl zy_101 zk_101
        dsimp only at hk h
        refine Or.inr (⟨⟨hc5, hc7⟩, ?_⟩)
        refine ⟨g_1, r_1, hk, ?_⟩
        have h := zm zy_113 h 1 (q := (cond (crel .ne r_1 0) 60 58, dset (dset (dset (dset (dset (dset lf 4 (0, (k : Int))) 3 (0, (T : Int))) 2 (0, (Q : Int))) 1 (0, (P : Int))) 0 (4, 102)) 5 (4, 29 + ((k : Int))), [], g_1)) rfl
        dsimp only at h
        rcases zif_ne h with ⟨hc9, h⟩ | ⟨hc9, h⟩
        · have h := zm zy_113 h 2 (q := (3, dset (dset (dset (dset (dset (dset (dset lf 4 (0, (k : Int))) 3 (0, (T : Int))) 2 (0, (Q : Int))) 1 (0, (P : Int))) 0 (4, 102)) 5 (4, 29 + ((k : Int)))) 4 (0, w32 (((k : Int)) + 1)), [], g_1)) rfl
          dsimp only at h
          try rw [w32_eq (z := ((k : Int)) + 1) (v := 1 + (k : Int)) (by omega) (by omega) (by omega)] at h
          refine Or.inl (⟨hc9, ?_⟩)
          exact ⟨_, rfl, rfl, rfl, rfl, rfl, h⟩
        · have h := zm zy_113 h 1 (q := (59, dset (dset (dset (dset (dset (dset lf 4 (0, (k : Int))) 3 (0, (T : Int))) 2 (0, (Q : Int))) 1 (0, (P : Int))) 0 (4, 102)) 5 (4, 29 + ((k : Int))), [(0, 0)], g_1)) rfl
          dsimp only at h
          refine Or.inr (⟨hc9, ?_⟩)
          exact zret zy_113 h rfl rfl
theorem t_fto_e {sv : Nat → Int32} {L n : Nat} {lf : dlf} {g : cg} {o : cg × Option cv} {P Q T k N : Nat} (rP : P ≤ 5) (rQ : Q ≤ 4) (rT : T ≤ 7) (rk : k ≤ 16) (rN : N ≤ 16) (hN : g 3 9 = (N : Int)) (hge : N ≤ k) (h : zr sv L (n + 1) 113 3 lf [] g o) (hl0 : lf 0 = (4, 102)) (hl1 : lf 1 = (0, (P : Int))) (hl2 : lf 2 = (0, (Q : Int))) (hl3 : lf 3 = (0, (T : Int))) (hl4 : lf 4 = (0, (k : Int))) : o = (g, some (0, 1)) := by
  rw [zov hl0, zov hl1, zov hl2, zov hl3, zov hl4] at h
  have h := zm1 zy_113 h 4 (q := (cond (crel .ge ((k : Int)) (g 3 9)) 66 15, dset (dset (dset (dset (dset lf 4 (0, (k : Int))) 3 (0, (T : Int))) 2 (0, (Q : Int))) 1 (0, (P : Int))) 0 (4, 102), [], g)) rfl
  dsimp only at h
  try rw [hN] at h
  rcases zif_ge h with ⟨hc1, h⟩ | ⟨hc1, h⟩
  · have h := zm zy_113 h 1 (q := (67, dset (dset (dset (dset (dset lf 4 (0, (k : Int))) 3 (0, (T : Int))) 2 (0, (Q : Int))) 1 (0, (P : Int))) 0 (4, 102), [(0, 1)], g)) rfl
    dsimp only at h
    exact zret zy_113 h rfl rfl
  · exact absurd hc1 (by omega)
theorem m_cbe0 {sv : Nat → Int32} {L n : Nat} {lf : dlf} {g : cg} {o : cg × Option cv} {a b : Int} (h : zr sv L n 320 0 lf [] g o) (hl0 : lf 0 = (4, 253)) (hl1 : lf 1 = (0, a)) (hl2 : lf 2 = (0, b)) : (((a < 0) ∨ (0 ≤ a ∧ g 254 1 ≤ a) ∨ (0 ≤ a ∧ a < g 254 1 ∧ b < 0) ∨ (0 ≤ a ∧ a < g 254 1 ∧ 0 ≤ b ∧ 8 ≤ b)) ∧ (o = (cup g 253 2 1, some (0, (-1))))) ∨ ((0 ≤ a ∧ a < g 254 1 ∧ 0 ≤ b ∧ b < 8) ∧ (∃ lf', lf' 0 = (4, 253) ∧ lf' 1 = (0, a) ∧ lf' 2 = (0, b) ∧ zr sv L n 320 21 lf' [] g o)) := by
  rw [zov hl0, zov hl1, zov hl2] at h
  have h := zm zy_320 h 2 (q := (2, dset (dset (dset lf 2 (0, b)) 1 (0, a)) 0 (4, 253), [(0, a), (4, 253)], g)) rfl
  dsimp only at h
  obtain ⟨gz1, rz2, hk, h⟩ := zcallI zy_320 h rfl rfl zy_208 zk_208
  dsimp only at hk h
  have hO3 := h
  have h := hk
  clear hk
  have h := zm zy_208 h 2 (q := (cond (crel .lt a 0) 18 4, darg 0 [(4, 253), (0, a)], [], g)) rfl
  dsimp only at h
  rcases zif_lt h with ⟨hc4, h⟩ | ⟨hc4, h⟩
  · have h := zm zy_208 h 1 (q := (19, darg 0 [(4, 253), (0, a)], [(0, 0)], g)) rfl
    dsimp only at h
    have h := zret zy_208 h rfl rfl
    obtain ⟨e1, e2⟩ := oI h
    have h := hO3
    rw [e1, e2] at h
    clear e1 e2
    clear hO3
    have h := zm zy_320 h 3 (q := (17, dset (dset (dset lf 2 (0, b)) 1 (0, a)) 0 (4, 253), [(0, 1), (4, 253)], g)) rfl
    dsimp only at h
    obtain ⟨gz5, rz6, hk, h⟩ := zcallI zy_320 h rfl rfl zy_170 zk_170
    dsimp only at hk h
    have hO7 := h
    have h := hk
    clear hk
    have h := zm zy_170 h 4 (q := (6, darg 0 [(4, 253), (0, 1)], [(0, (-1))], cup g 253 2 1)) rfl
    dsimp only at h
    have h := zret zy_170 h rfl rfl
    obtain ⟨e1, e2⟩ := oI h
    have h := hO7
    rw [e1, e2] at h
    clear e1 e2
    clear hO7
    refine Or.inl (⟨Or.inl (hc4), ?_⟩)
    exact zret zy_320 h rfl rfl
  · have h := zm zy_208 h 6 (q := (cond (crel .ge a (g 254 1)) 18 14, darg 0 [(4, 253), (0, a)], [], g)) rfl
    dsimp only at h
    rcases zif_ge h with ⟨hc8, h⟩ | ⟨hc8, h⟩
    · have h := zm zy_208 h 1 (q := (19, darg 0 [(4, 253), (0, a)], [(0, 0)], g)) rfl
      dsimp only at h
      have h := zret zy_208 h rfl rfl
      obtain ⟨e1, e2⟩ := oI h
      have h := hO3
      rw [e1, e2] at h
      clear e1 e2
      clear hO3
      have h := zm zy_320 h 3 (q := (17, dset (dset (dset lf 2 (0, b)) 1 (0, a)) 0 (4, 253), [(0, 1), (4, 253)], g)) rfl
      dsimp only at h
      obtain ⟨gz9, rz10, hk, h⟩ := zcallI zy_320 h rfl rfl zy_170 zk_170
      dsimp only at hk h
      have hO11 := h
      have h := hk
      clear hk
      have h := zm zy_170 h 4 (q := (6, darg 0 [(4, 253), (0, 1)], [(0, (-1))], cup g 253 2 1)) rfl
      dsimp only at h
      have h := zret zy_170 h rfl rfl
      obtain ⟨e1, e2⟩ := oI h
      have h := hO11
      rw [e1, e2] at h
      clear e1 e2
      clear hO11
      refine Or.inl (⟨Or.inr (Or.inl (⟨hc4, hc8⟩)), ?_⟩)
      exact zret zy_320 h rfl rfl
    · have h := zm zy_208 h 2 (q := (19, darg 0 [(4, 253), (0, a)], [(0, 1)], g)) rfl
      dsimp only at h
      have h := zret zy_208 h rfl rfl
      obtain ⟨e1, e2⟩ := oI h
      have h := hO3
      rw [e1, e2] at h
      clear e1 e2
      clear hO3
      have h := zm zy_320 h 2 (q := (9, dset (dset (dset lf 2 (0, b)) 1 (0, a)) 0 (4, 253), [(0, b)], g)) rfl
      dsimp only at h
      obtain ⟨gz12, rz13, hk, h⟩ := zcallI zy_320 h rfl rfl zy_216 zk_216
      dsimp only at hk h
      have hO14 := h
      have h := hk
      clear hk
      have h := zm zy_216 h 2 (q := (cond (crel .lt b 0) 14 4, darg 0 [(0, b)], [], g)) rfl
      dsimp only at h
      rcases zif_lt h with ⟨hc15, h⟩ | ⟨hc15, h⟩
      · have h := zm zy_216 h 1 (q := (15, darg 0 [(0, b)], [(0, 0)], g)) rfl
        dsimp only at h
        have h := zret zy_216 h rfl rfl
        obtain ⟨e1, e2⟩ := oI h
        have h := hO14
        rw [e1, e2] at h
        clear e1 e2
        clear hO14
        have h := zm zy_320 h 3 (q := (17, dset (dset (dset lf 2 (0, b)) 1 (0, a)) 0 (4, 253), [(0, 1), (4, 253)], g)) rfl
        dsimp only at h
        obtain ⟨gz16, rz17, hk, h⟩ := zcallI zy_320 h rfl rfl zy_170 zk_170
        dsimp only at hk h
        have hO18 := h
        have h := hk
        clear hk
        have h := zm zy_170 h 4 (q := (6, darg 0 [(4, 253), (0, 1)], [(0, (-1))], cup g 253 2 1)) rfl
        dsimp only at h
        have h := zret zy_170 h rfl rfl
        obtain ⟨e1, e2⟩ := oI h
        have h := hO18
        rw [e1, e2] at h
        clear e1 e2
        clear hO18
        refine Or.inl (⟨Or.inr (Or.inr (Or.inl (⟨hc4, hc8, hc15⟩))), ?_⟩)
        exact zret zy_320 h rfl rfl
      · have h := zm zy_216 h 3 (q := (cond (crel .ge b 8) 14 10, darg 0 [(0, b)], [], g)) rfl
        dsimp only at h
        rcases zif_ge h with ⟨hc19, h⟩ | ⟨hc19, h⟩
        · have h := zm zy_216 h 1 (q := (15, darg 0 [(0, b)], [(0, 0)], g)) rfl
          dsimp only at h
          have h := zret zy_216 h rfl rfl
          obtain ⟨e1, e2⟩ := oI h
          have h := hO14
          rw [e1, e2] at h
          clear e1 e2
          clear hO14
          have h := zm zy_320 h 3 (q := (17, dset (dset (dset lf 2 (0, b)) 1 (0, a)) 0 (4, 253), [(0, 1), (4, 253)], g)) rfl
          dsimp only at h
          obtain ⟨gz20, rz21, hk, h⟩ := zcallI zy_320 h rfl rfl zy_170 zk_170
          dsimp only at hk h
          have hO22 := h
          have h := hk
          clear hk
          have h := zm zy_170 h 4 (q := (6, darg 0 [(4, 253), (0, 1)], [(0, (-1))], cup g 253 2 1)) rfl
          dsimp only at h
          have h := zret zy_170 h rfl rfl
          obtain ⟨e1, e2⟩ := oI h
          have h := hO22
          rw [e1, e2] at h
          clear e1 e2
          clear hO22
          refine Or.inl (⟨Or.inr (Or.inr (Or.inr (⟨hc4, hc8, hc15, hc19⟩))), ?_⟩)
          exact zret zy_320 h rfl rfl
        · have h := zm zy_216 h 2 (q := (15, darg 0 [(0, b)], [(0, 1)], g)) rfl
          dsimp only at h
          have h := zret zy_216 h rfl rfl
          obtain ⟨e1, e2⟩ := oI h
          have h := hO14
          rw [e1, e2] at h
          clear e1 e2
          clear hO14
          have h := zm zy_320 h 1 (q := (21, dset (dset (dset lf 2 (0, b)) 1 (0, a)) 0 (4, 253), [], g)) rfl
          dsimp only at h
          refine Or.inr (⟨⟨hc4, hc8, hc15, hc19⟩, ?_⟩)
          exact ⟨_, rfl, rfl, rfl, h⟩
theorem m_cbe21 {sv : Nat → Int32} {L n : Nat} {lf : dlf} {g : cg} {o : cg × Option cv} {P T : Nat} (rP : P ≤ 5) (rT : T ≤ 7) (h : zr sv L n 320 21 lf [] g o) (hl0 : lf 0 = (4, 253)) (hl1 : lf 1 = (0, (P : Int))) (hl2 : lf 2 = (0, (T : Int))) : ∃ lf', lf' 0 = (4, 253) ∧ lf' 1 = (0, (P : Int)) ∧ lf' 2 = (0, (T : Int)) ∧ lf' 3 = (0, 0) ∧ lf' 4 = (0, 0) ∧ zr sv L n 320 26 lf' [] g o := by
  rw [zov hl0, zov hl1, zov hl2] at h
  have h := zm zy_320 h 4 (q := (26, dset (dset (dset (dset (dset lf 2 (0, (T : Int))) 1 (0, (P : Int))) 0 (4, 253)) 3 (0, 0)) 4 (0, 0), [], g)) rfl
  dsimp only at h
  exact ⟨_, rfl, rfl, rfl, rfl, rfl, h⟩
theorem m_cbe_s {sv : Nat → Int32} {L n : Nat} {lf : dlf} {g : cg} {o : cg × Option cv} {P T k N : Nat} {u : Int} (rP : P ≤ 5) (rT : T ≤ 7) (rk : k ≤ 4) (rN : N ≤ 5) (hQ : g 254 0 = (N : Int)) (hlt : k < N) (h : zr sv L (n + 1) 320 26 lf [] g o) (hl0 : lf 0 = (4, 253)) (hl1 : lf 1 = (0, (P : Int))) (hl2 : lf 2 = (0, (T : Int))) (hl3 : lf 3 = (0, u)) (hl4 : lf 4 = (0, (k : Int))) : ∃ g_1 r_1, zr sv L n 237 0 (darg 0 [(4, 253), (0, (P : Int)), (0, (k : Int)), (0, (T : Int))]) [] g (g_1, some (0, r_1)) ∧ (((r_1 = 0) ∧ (∃ lf', lf' 0 = (4, 253) ∧ lf' 1 = (0, (P : Int)) ∧ lf' 2 = (0, (T : Int)) ∧ lf' 3 = (0, bor u 0) ∧ lf' 4 = (0, 1 + (k : Int)) ∧ zr sv L n 320 26 lf' [] g_1 o)) ∨ ((r_1 ≠ 0) ∧ (∃ lf', lf' 0 = (4, 253) ∧ lf' 1 = (0, (P : Int)) ∧ lf' 2 = (0, (T : Int)) ∧ lf' 3 = (0, bor u (bsl 1 ((k : Int)))) ∧ lf' 4 = (0, 1 + (k : Int)) ∧ zr sv L n 320 26 lf' [] g_1 o))) := by
  rw [zov hl0, zov hl1, zov hl2, zov hl3, zov hl4] at h
  have h := zm1 zy_320 h 5 (q := (cond (crel .ge ((k : Int)) (g 254 0)) 65 37, dset (dset (dset (dset (dset lf 4 (0, (k : Int))) 3 (0, u)) 2 (0, (T : Int))) 1 (0, (P : Int))) 0 (4, 253), [], g)) rfl
  dsimp only at h
  try rw [hQ] at h
  rcases zif_ge h with ⟨hc1, h⟩ | ⟨hc1, h⟩
  · exact absurd hc1 (by omega)
  · have h := zm zy_320 h 5 (q := (43, dset (dset (dset (dset (dset lf 4 (0, (k : Int))) 3 (0, u)) 2 (0, (T : Int))) 1 (0, (P : Int))) 0 (4, 253), [(0, (T : Int)), (0, (k : Int)), (0, (P : Int)), (4, 253), (0, u)], g)) rfl
    dsimp only at h
    obtain ⟨g_1, r_1, hk, h⟩ := zcallI zy_320 h rfl rfl zy_237 zk_237
    dsimp only at hk h
    refine ⟨g_1, r_1, hk, ?_⟩
    have h := zm zy_320 h 1 (q := (cond (crel .eq r_1 0) 56 49, dset (dset (dset (dset (dset lf 4 (0, (k : Int))) 3 (0, u)) 2 (0, (T : Int))) 1 (0, (P : Int))) 0 (4, 253), [(0, u)], g_1)) rfl
    dsimp only at h
    rcases zif_eq h with ⟨hc2, h⟩ | ⟨hc2, h⟩
    · have h := zm zy_320 h 5 (q := (26, dset (dset (dset (dset (dset (dset (dset lf 4 (0, (k : Int))) 3 (0, u)) 2 (0, (T : Int))) 1 (0, (P : Int))) 0 (4, 253)) 3 (0, bor u 0)) 4 (0, w32 (((k : Int)) + 1)), [], g_1)) rfl
      dsimp only at h
      try rw [w32_eq (z := ((k : Int)) + 1) (v := 1 + (k : Int)) (by omega) (by omega) (by omega)] at h
      refine Or.inl (⟨hc2, ?_⟩)
      exact ⟨_, rfl, rfl, rfl, rfl, rfl, h⟩
    · have h := zm zy_320 h 8 (q := (26, dset (dset (dset (dset (dset (dset (dset lf 4 (0, (k : Int))) 3 (0, u)) 2 (0, (T : Int))) 1 (0, (P : Int))) 0 (4, 253)) 3 (0, bor u (bsl 1 ((k : Int))))) 4 (0, w32 (((k : Int)) + 1)), [], g_1)) rfl
      dsimp only at h
      try rw [w32_eq (z := ((k : Int)) + 1) (v := 1 + (k : Int)) (by omega) (by omega) (by omega)] at h
      refine Or.inr (⟨hc2, ?_⟩)
      exact ⟨_, rfl, rfl, rfl, rfl, rfl, h⟩
theorem m_cbe_e {sv : Nat → Int32} {L n : Nat} {lf : dlf} {g : cg} {o : cg × Option cv} {P T k N : Nat} {u : Int} (rP : P ≤ 5) (rT : T ≤ 7) (rk : k ≤ 5) (rN : N ≤ 5) (hQ : g 254 0 = (N : Int)) (hge : N ≤ k) (h : zr sv L (n + 1) 320 26 lf [] g o) (hl0 : lf 0 = (4, 253)) (hl1 : lf 1 = (0, (P : Int))) (hl2 : lf 2 = (0, (T : Int))) (hl3 : lf 3 = (0, u)) (hl4 : lf 4 = (0, (k : Int))) : o = (cup g 253 2 0, some (0, u)) := by
  rw [zov hl0, zov hl1, zov hl2, zov hl3, zov hl4] at h
  have h := zm1 zy_320 h 5 (q := (cond (crel .ge ((k : Int)) (g 254 0)) 65 37, dset (dset (dset (dset (dset lf 4 (0, (k : Int))) 3 (0, u)) 2 (0, (T : Int))) 1 (0, (P : Int))) 0 (4, 253), [], g)) rfl
  dsimp only at h
  try rw [hQ] at h
  rcases zif_ge h with ⟨hc1, h⟩ | ⟨hc1, h⟩
  · have h := zm zy_320 h 2 (q := (67, dset (dset (dset (dset (dset lf 4 (0, (k : Int))) 3 (0, u)) 2 (0, (T : Int))) 1 (0, (P : Int))) 0 (4, 253), [(0, u), (4, 253)], g)) rfl
    dsimp only at h
    obtain ⟨gz2, rz3, hk, h⟩ := zcallI zy_320 h rfl rfl zy_192 zk_192
    dsimp only at hk h
    have hO4 := h
    have h := hk
    clear hk
    have h := zm zy_192 h 4 (q := (6, darg 0 [(4, 253), (0, u)], [(0, u)], cup g 253 2 0)) rfl
    dsimp only at h
    have h := zret zy_192 h rfl rfl
    obtain ⟨e1, e2⟩ := oI h
    have h := hO4
    rw [e1, e2] at h
    clear e1 e2
    clear hO4
    exact zret zy_320 h rfl rfl
  · exact absurd hc1 (by omega)
theorem m_chb0 {sv : Nat → Int32} {L n : Nat} {lf : dlf} {g : cg} {o : cg × Option cv} {P Q T : Nat} (rP : P ≤ 5) (rQ : Q ≤ 4) (rT : T ≤ 7) (h : zr sv L n 237 0 lf [] g o) (hl0 : lf 0 = (4, 253)) (hl1 : lf 1 = (0, (P : Int))) (hl2 : lf 2 = (0, (Q : Int))) (hl3 : lf 3 = (0, (T : Int))) : ∃ lf', lf' 0 = (4, 253) ∧ lf' 1 = (0, (P : Int)) ∧ lf' 2 = (0, (Q : Int)) ∧ lf' 3 = (0, (T : Int)) ∧ lf' 4 = (0, 0) ∧ zr sv L n 237 3 lf' [] g o := by
  rw [zov hl0, zov hl1, zov hl2, zov hl3] at h
  have h := zm zy_237 h 2 (q := (3, dset (dset (dset (dset (dset lf 3 (0, (T : Int))) 2 (0, (Q : Int))) 1 (0, (P : Int))) 0 (4, 253)) 4 (0, 0), [], g)) rfl
  dsimp only at h
  exact ⟨_, rfl, rfl, rfl, rfl, rfl, h⟩
theorem m_chb3_s {sv : Nat → Int32} {L n : Nat} {lf : dlf} {g : cg} {o : cg × Option cv} {P Q T k : Nat} {v : Int} (rP : P ≤ 5) (rQ : Q ≤ 4) (rT : T ≤ 7) (rk : k ≤ 7) (hv : g 254 (51 + 8 * P + k) = v) (h : zr sv L (n + 1) 237 3 lf [] g o) (hl0 : lf 0 = (4, 253)) (hl1 : lf 1 = (0, (P : Int))) (hl2 : lf 2 = (0, (Q : Int))) (hl3 : lf 3 = (0, (T : Int))) (hl4 : lf 4 = (0, (k : Int))) : ((v = (-1)) ∧ (∃ lf', lf' 0 = (4, 253) ∧ lf' 1 = (0, (P : Int)) ∧ lf' 2 = (0, (Q : Int)) ∧ lf' 3 = (0, (T : Int)) ∧ lf' 4 = (0, 1 + (k : Int)) ∧ zr sv L n 237 3 lf' [] g o)) ∨ ((v ≠ (-1)) ∧ (∃ g_1 r_1, zr sv L n 231 0 (darg 0 [(4, 253), (0, (Q : Int)), (0, (T : Int)), (0, v), (0, (k : Int))]) [] g (g_1, some (0, r_1)) ∧ (((r_1 ≠ 0) ∧ (∃ lf', lf' 0 = (4, 253) ∧ lf' 1 = (0, (P : Int)) ∧ lf' 2 = (0, (Q : Int)) ∧ lf' 3 = (0, (T : Int)) ∧ lf' 4 = (0, 1 + (k : Int)) ∧ zr sv L n 237 3 lf' [] g_1 o)) ∨ ((r_1 = 0) ∧ (o = (g_1, some (0, 0))))))) := by
  rw [zov hl0, zov hl1, zov hl2, zov hl3, zov hl4] at h
  have h := zm1 zy_237 h 2 (q := (cond (crel .ge ((k : Int)) 8) 47 10, dset (dset (dset (dset (dset lf 4 (0, (k : Int))) 3 (0, (T : Int))) 2 (0, (Q : Int))) 1 (0, (P : Int))) 0 (4, 253), [], g)) rfl
  dsimp only at h
  rcases zif_ge h with ⟨hc1, h⟩ | ⟨hc1, h⟩
  · exact absurd hc1 (by omega)
  · have h := zm zy_237 h 3 (q := (14, dset (dset (dset (dset (dset lf 4 (0, (k : Int))) 3 (0, (T : Int))) 2 (0, (Q : Int))) 1 (0, (P : Int))) 0 (4, 253), [(0, (k : Int)), (0, (P : Int)), (4, 253)], g)) rfl
    dsimp only at h
    obtain ⟨gz2, rz3, hk, h⟩ := zcallI zy_237 h rfl rfl zy_205 zk_205
    dsimp only at hk h
    have hO4 := h
    have h := hk
    clear hk
    have h := zm zy_205 h 9 (q := (13, darg 0 [(4, 253), (0, (P : Int)), (0, (k : Int))], [(0, w32 ((w32 (51 + (w32 (8 * ((P : Int)))))) + ((k : Int)))), (4, 254)], g)) rfl
    dsimp only at h
    try rw [w32_eq (z := 8 * ((P : Int))) (v := 8 * (P : Int)) (by omega) (by omega) (by omega)] at h
    try rw [w32_eq (z := 51 + (8 * (P : Int))) (v := 51 + 8 * (P : Int)) (by omega) (by omega) (by omega)] at h
    try rw [w32_eq (z := (51 + 8 * (P : Int)) + ((k : Int))) (v := 51 + 8 * (P : Int) + (k : Int)) (by omega) (by omega) (by omega)] at h
    have h := zald zy_205 h rfl rfl (dvb_254 (i := 51 + 8 * (P : Int) + (k : Int)) (by omega) (by omega))
    dsimp only at h
    try rw [show (51 + 8 * (P : Int) + (k : Int)).toNat = 51 + 8 * P + k from by omega] at h
    try rw [hv] at h
    have h := zret zy_205 h rfl rfl
    obtain ⟨e1, e2⟩ := oI h
    have h := hO4
    rw [e1, e2] at h
    clear e1 e2
    clear hO4
    have h := zm zy_237 h 2 (q := (cond (crel .eq v ((-1))) 41 21, dset (dset (dset (dset (dset lf 4 (0, (k : Int))) 3 (0, (T : Int))) 2 (0, (Q : Int))) 1 (0, (P : Int))) 0 (4, 253), [], g)) rfl
    dsimp only at h
    rcases zif_eq h with ⟨hc5, h⟩ | ⟨hc5, h⟩
    · have h := zm zy_237 h 2 (q := (3, dset (dset (dset (dset (dset (dset lf 4 (0, (k : Int))) 3 (0, (T : Int))) 2 (0, (Q : Int))) 1 (0, (P : Int))) 0 (4, 253)) 4 (0, w32 (((k : Int)) + 1)), [], g)) rfl
      dsimp only at h
      try rw [w32_eq (z := ((k : Int)) + 1) (v := 1 + (k : Int)) (by omega) (by omega) (by omega)] at h
      refine Or.inl (⟨hc5, ?_⟩)
      exact ⟨_, rfl, rfl, rfl, rfl, rfl, h⟩
    · have h := zm zy_237 h 6 (q := (28, dset (dset (dset (dset (dset lf 4 (0, (k : Int))) 3 (0, (T : Int))) 2 (0, (Q : Int))) 1 (0, (P : Int))) 0 (4, 253), [(0, (k : Int)), (0, (P : Int)), (4, 253), (0, (T : Int)), (0, (Q : Int)), (4, 253)], g)) rfl
      dsimp only at h
      obtain ⟨gz7, rz8, hk, h⟩ := zcallI zy_237 h rfl rfl zy_205 zk_205
      dsimp only at hk h
      have hO9 := h
      have h := hk
      clear hk
      have h := zm zy_205 h 9 (q := (13, darg 0 [(4, 253), (0, (P : Int)), (0, (k : Int))], [(0, w32 ((w32 (51 + (w32 (8 * ((P : Int)))))) + ((k : Int)))), (4, 254)], g)) rfl
      dsimp only at h
      try rw [w32_eq (z := 8 * ((P : Int))) (v := 8 * (P : Int)) (by omega) (by omega) (by omega)] at h
      try rw [w32_eq (z := 51 + (8 * (P : Int))) (v := 51 + 8 * (P : Int)) (by omega) (by omega) (by omega)] at h
      try rw [w32_eq (z := (51 + 8 * (P : Int)) + ((k : Int))) (v := 51 + 8 * (P : Int) + (k : Int)) (by omega) (by omega) (by omega)] at h
      have h := zald zy_205 h rfl rfl (dvb_254 (i := 51 + 8 * (P : Int) + (k : Int)) (by omega) (by omega))
      dsimp only at h
      try rw [show (51 + 8 * (P : Int) + (k : Int)).toNat = 51 + 8 * P + k from by omega] at h
      try rw [hv] at h
      have h := zret zy_205 h rfl rfl
      obtain ⟨e1, e2⟩ := oI h
      have h := hO9
      rw [e1, e2] at h
      clear e1 e2
      clear hO9
      have h := zm zy_237 h 1 (q := (33, dset (dset (dset (dset (dset lf 4 (0, (k : Int))) 3 (0, (T : Int))) 2 (0, (Q : Int))) 1 (0, (P : Int))) 0 (4, 253), [(0, (k : Int)), (0, v), (0, (T : Int)), (0, (Q : Int)), (4, 253)], g)) rfl
      dsimp only at h
      obtain ⟨g_1, r_1, hk, h⟩ := zcallI zy_237 h rfl rfl zy_231 zk_231
      dsimp only at hk h
      refine Or.inr (⟨hc5, ?_⟩)
      refine ⟨g_1, r_1, hk, ?_⟩
      have h := zm zy_237 h 1 (q := (cond (crel .ne r_1 0) 41 39, dset (dset (dset (dset (dset lf 4 (0, (k : Int))) 3 (0, (T : Int))) 2 (0, (Q : Int))) 1 (0, (P : Int))) 0 (4, 253), [], g_1)) rfl
      dsimp only at h
      rcases zif_ne h with ⟨hc10, h⟩ | ⟨hc10, h⟩
      · have h := zm zy_237 h 2 (q := (3, dset (dset (dset (dset (dset (dset lf 4 (0, (k : Int))) 3 (0, (T : Int))) 2 (0, (Q : Int))) 1 (0, (P : Int))) 0 (4, 253)) 4 (0, w32 (((k : Int)) + 1)), [], g_1)) rfl
        dsimp only at h
        try rw [w32_eq (z := ((k : Int)) + 1) (v := 1 + (k : Int)) (by omega) (by omega) (by omega)] at h
        refine Or.inl (⟨hc10, ?_⟩)
        exact ⟨_, rfl, rfl, rfl, rfl, rfl, h⟩
      · have h := zm zy_237 h 1 (q := (40, dset (dset (dset (dset (dset lf 4 (0, (k : Int))) 3 (0, (T : Int))) 2 (0, (Q : Int))) 1 (0, (P : Int))) 0 (4, 253), [(0, 0)], g_1)) rfl
        dsimp only at h
        refine Or.inr (⟨hc10, ?_⟩)
        exact zret zy_237 h rfl rfl
theorem m_chb3_e {sv : Nat → Int32} {L n : Nat} {lf : dlf} {g : cg} {o : cg × Option cv} {P Q T : Nat} (rP : P ≤ 5) (rQ : Q ≤ 4) (rT : T ≤ 7) (h : zr sv L (n + 1) 237 3 lf [] g o) (hl0 : lf 0 = (4, 253)) (hl1 : lf 1 = (0, (P : Int))) (hl2 : lf 2 = (0, (Q : Int))) (hl3 : lf 3 = (0, (T : Int))) (hl4 : lf 4 = (0, 8)) : ∃ lf', lf' 0 = (4, 253) ∧ lf' 1 = (0, (P : Int)) ∧ lf' 2 = (0, (Q : Int)) ∧ lf' 3 = (0, (T : Int)) ∧ lf' 4 = (0, 0) ∧ zr sv L n 237 50 lf' [] g o := by
  rw [zov hl0, zov hl1, zov hl2, zov hl3, zov hl4] at h
  have h := zm1 zy_237 h 4 (q := (50, dset (dset (dset (dset (dset (dset lf 4 (0, 8)) 3 (0, (T : Int))) 2 (0, (Q : Int))) 1 (0, (P : Int))) 0 (4, 253)) 4 (0, 0), [], g)) rfl
  dsimp only at h
  exact ⟨_, rfl, rfl, rfl, rfl, rfl, h⟩
theorem m_chb_s {sv : Nat → Int32} {L n : Nat} {lf : dlf} {g : cg} {o : cg × Option cv} {P Q T w p q t k N : Nat} {f s b : Int} (rP : P ≤ 5) (rQ : Q ≤ 4) (rT : T ≤ 7) (rw : w ≤ 5) (rp : p ≤ 5) (rq : q ≤ 4) (rt : t ≤ 7) (rk : k ≤ 15) (rN : N ≤ 16) (hN : g 254 2 = (N : Int)) (hO : OHM g k w p q t f s b) (hlt : k < N) (h : zr sv L (n + 1) 237 50 lf [] g o) (hl0 : lf 0 = (4, 253)) (hl1 : lf 1 = (0, (P : Int))) (hl2 : lf 2 = (0, (Q : Int))) (hl3 : lf 3 = (0, (T : Int))) (hl4 : lf 4 = (0, (k : Int))) : (((s ≠ 0) ∨ (s = 0 ∧ (p : Int) ≠ (P : Int))) ∧ (∃ lf', lf' 0 = (4, 253) ∧ lf' 1 = (0, (P : Int)) ∧ lf' 2 = (0, (Q : Int)) ∧ lf' 3 = (0, (T : Int)) ∧ lf' 4 = (0, 1 + (k : Int)) ∧ zr sv L n 237 50 lf' [] g o)) ∨ ((s = 0 ∧ (p : Int) = (P : Int)) ∧ (∃ g_1 r_1, zr sv L n 231 0 (darg 0 [(4, 253), (0, (Q : Int)), (0, (T : Int)), (0, (q : Int)), (0, (t : Int))]) [] g (g_1, some (0, r_1)) ∧ (((r_1 ≠ 0) ∧ (∃ lf', lf' 0 = (4, 253) ∧ lf' 1 = (0, (P : Int)) ∧ lf' 2 = (0, (Q : Int)) ∧ lf' 3 = (0, (T : Int)) ∧ lf' 4 = (0, 1 + (k : Int)) ∧ zr sv L n 237 50 lf' [] g_1 o)) ∨ ((r_1 = 0) ∧ (o = (g_1, some (0, 0))))))) := by
  rw [zov hl0, zov hl1, zov hl2, zov hl3, zov hl4] at h
  have h := zm1 zy_237 h 5 (q := (cond (crel .ge ((k : Int)) (g 254 2)) 109 61, dset (dset (dset (dset (dset lf 4 (0, (k : Int))) 3 (0, (T : Int))) 2 (0, (Q : Int))) 1 (0, (P : Int))) 0 (4, 253), [], g)) rfl
  dsimp only at h
  try rw [hN] at h
  rcases zif_ge h with ⟨hc1, h⟩ | ⟨hc1, h⟩
  · exact absurd hc1 (by omega)
  · have h := zm zy_237 h 2 (q := (64, dset (dset (dset (dset (dset lf 4 (0, (k : Int))) 3 (0, (T : Int))) 2 (0, (Q : Int))) 1 (0, (P : Int))) 0 (4, 253), [(0, (k : Int)), (4, 253)], g)) rfl
    dsimp only at h
    obtain ⟨gz2, rz3, hk, h⟩ := zcallI zy_237 h rfl rfl zy_201 zk_201
    dsimp only at hk h
    have hO4 := h
    have h := hk
    clear hk
    have h := zm zy_201 h 3 (q := (5, darg 0 [(4, 253), (0, (k : Int))], [(0, (k : Int)), (4, 254)], g)) rfl
    dsimp only at h
    obtain ⟨gz5, rz6, hk, h⟩ := zcallI zy_201 h rfl rfl zy_199 zk_199
    dsimp only at hk h
    have hO7 := h
    have h := hk
    clear hk
    have h := zm zy_199 h 5 (q := (7, darg 0 [(0, (k : Int))], [(0, w32 (99 + (w32 (8 * ((k : Int))))))], g)) rfl
    dsimp only at h
    try rw [w32_eq (z := 8 * ((k : Int))) (v := 8 * (k : Int)) (by omega) (by omega) (by omega)] at h
    try rw [w32_eq (z := 99 + (8 * (k : Int))) (v := 99 + 8 * (k : Int)) (by omega) (by omega) (by omega)] at h
    have h := zret zy_199 h rfl rfl
    obtain ⟨e1, e2⟩ := oI h
    have h := hO7
    rw [e1, e2] at h
    clear e1 e2
    clear hO7
    have h := zm zy_201 h 2 (q := (10, darg 0 [(4, 253), (0, (k : Int))], [(0, w32 ((99 + 8 * (k : Int)) + 5)), (4, 254)], g)) rfl
    dsimp only at h
    try rw [w32_eq (z := (99 + 8 * (k : Int)) + 5) (v := 104 + 8 * (k : Int)) (by omega) (by omega) (by omega)] at h
    have h := zald zy_201 h rfl rfl (dvb_254 (i := 104 + 8 * (k : Int)) (by omega) (by omega))
    dsimp only at h
    try rw [show (104 + 8 * (k : Int)).toNat = 104 + 8 * k from by omega] at h
    try rw [hO.2.2.2.2.2.1] at h
    have h := zm zy_201 h 1 (q := (cond (crel .ne s 0) 18 14, darg 0 [(4, 253), (0, (k : Int))], [], g)) rfl
    dsimp only at h
    rcases zif_ne h with ⟨hc8, h⟩ | ⟨hc8, h⟩
    · have h := zm zy_201 h 1 (q := (19, darg 0 [(4, 253), (0, (k : Int))], [(0, 0)], g)) rfl
      dsimp only at h
      have h := zret zy_201 h rfl rfl
      obtain ⟨e1, e2⟩ := oI h
      have h := hO4
      rw [e1, e2] at h
      clear e1 e2
      clear hO4
      have h := zm zy_237 h 3 (q := (50, dset (dset (dset (dset (dset (dset lf 4 (0, (k : Int))) 3 (0, (T : Int))) 2 (0, (Q : Int))) 1 (0, (P : Int))) 0 (4, 253)) 4 (0, w32 (((k : Int)) + 1)), [], g)) rfl
      dsimp only at h
      try rw [w32_eq (z := ((k : Int)) + 1) (v := 1 + (k : Int)) (by omega) (by omega) (by omega)] at h
      refine Or.inl (⟨Or.inl (hc8), ?_⟩)
      exact ⟨_, rfl, rfl, rfl, rfl, rfl, h⟩
    · have h := zm zy_201 h 2 (q := (19, darg 0 [(4, 253), (0, (k : Int))], [(0, 1)], g)) rfl
      dsimp only at h
      have h := zret zy_201 h rfl rfl
      obtain ⟨e1, e2⟩ := oI h
      have h := hO4
      rw [e1, e2] at h
      clear e1 e2
      clear hO4
      have h := zm zy_237 h 3 (q := (73, dset (dset (dset (dset (dset lf 4 (0, (k : Int))) 3 (0, (T : Int))) 2 (0, (Q : Int))) 1 (0, (P : Int))) 0 (4, 253), [(0, (k : Int)), (4, 253)], g)) rfl
      dsimp only at h
      obtain ⟨gz10, rz11, hk, h⟩ := zcallI zy_237 h rfl rfl zy_203 zk_203
      dsimp only at hk h
      have hO12 := h
      have h := hk
      clear hk
      have h := zm zy_203 h 3 (q := (5, darg 0 [(4, 253), (0, (k : Int))], [(0, (k : Int)), (4, 254)], g)) rfl
      dsimp only at h
      obtain ⟨gz13, rz14, hk, h⟩ := zcallI zy_203 h rfl rfl zy_199 zk_199
      dsimp only at hk h
      have hO15 := h
      have h := hk
      clear hk
      have h := zm zy_199 h 5 (q := (7, darg 0 [(0, (k : Int))], [(0, w32 (99 + (w32 (8 * ((k : Int))))))], g)) rfl
      dsimp only at h
      try rw [w32_eq (z := 8 * ((k : Int))) (v := 8 * (k : Int)) (by omega) (by omega) (by omega)] at h
      try rw [w32_eq (z := 99 + (8 * (k : Int))) (v := 99 + 8 * (k : Int)) (by omega) (by omega) (by omega)] at h
      have h := zret zy_199 h rfl rfl
      obtain ⟨e1, e2⟩ := oI h
      have h := hO15
      rw [e1, e2] at h
      clear e1 e2
      clear hO15
      have h := zm zy_203 h 2 (q := (10, darg 0 [(4, 253), (0, (k : Int))], [(0, w32 ((99 + 8 * (k : Int)) + 1)), (4, 254)], g)) rfl
      dsimp only at h
      try rw [w32_eq (z := (99 + 8 * (k : Int)) + 1) (v := 100 + 8 * (k : Int)) (by omega) (by omega) (by omega)] at h
      have h := zald zy_203 h rfl rfl (dvb_254 (i := 100 + 8 * (k : Int)) (by omega) (by omega))
      dsimp only at h
      try rw [show (100 + 8 * (k : Int)).toNat = 100 + 8 * k from by omega] at h
      try rw [hO.2.1] at h
      have h := zret zy_203 h rfl rfl
      obtain ⟨e1, e2⟩ := oI h
      have h := hO12
      rw [e1, e2] at h
      clear e1 e2
      clear hO12
      have h := zm zy_237 h 2 (q := (cond (crel .ne ((p : Int)) ((P : Int))) 103 80, dset (dset (dset (dset (dset lf 4 (0, (k : Int))) 3 (0, (T : Int))) 2 (0, (Q : Int))) 1 (0, (P : Int))) 0 (4, 253), [], g)) rfl
      dsimp only at h
      rcases zif_ne h with ⟨hc16, h⟩ | ⟨hc16, h⟩
      · have h := zm zy_237 h 2 (q := (50, dset (dset (dset (dset (dset (dset lf 4 (0, (k : Int))) 3 (0, (T : Int))) 2 (0, (Q : Int))) 1 (0, (P : Int))) 0 (4, 253)) 4 (0, w32 (((k : Int)) + 1)), [], g)) rfl
        dsimp only at h
        try rw [w32_eq (z := ((k : Int)) + 1) (v := 1 + (k : Int)) (by omega) (by omega) (by omega)] at h
        refine Or.inl (⟨Or.inr (⟨hc8, hc16⟩), ?_⟩)
        exact ⟨_, rfl, rfl, rfl, rfl, rfl, h⟩
      · have h := zm zy_237 h 5 (q := (86, dset (dset (dset (dset (dset lf 4 (0, (k : Int))) 3 (0, (T : Int))) 2 (0, (Q : Int))) 1 (0, (P : Int))) 0 (4, 253), [(0, (k : Int)), (4, 253), (0, (T : Int)), (0, (Q : Int)), (4, 253)], g)) rfl
        dsimp only at h
        obtain ⟨gz18, rz19, hk, h⟩ := zcallI zy_237 h rfl rfl zy_206 zk_206
        dsimp only at hk h
        have hO20 := h
        have h := hk
        clear hk
        have h := zm zy_206 h 3 (q := (5, darg 0 [(4, 253), (0, (k : Int))], [(0, (k : Int)), (4, 254)], g)) rfl
        dsimp only at h
        obtain ⟨gz21, rz22, hk, h⟩ := zcallI zy_206 h rfl rfl zy_199 zk_199
        dsimp only at hk h
        have hO23 := h
        have h := hk
        clear hk
        have h := zm zy_199 h 5 (q := (7, darg 0 [(0, (k : Int))], [(0, w32 (99 + (w32 (8 * ((k : Int))))))], g)) rfl
        dsimp only at h
        try rw [w32_eq (z := 8 * ((k : Int))) (v := 8 * (k : Int)) (by omega) (by omega) (by omega)] at h
        try rw [w32_eq (z := 99 + (8 * (k : Int))) (v := 99 + 8 * (k : Int)) (by omega) (by omega) (by omega)] at h
        have h := zret zy_199 h rfl rfl
        obtain ⟨e1, e2⟩ := oI h
        have h := hO23
        rw [e1, e2] at h
        clear e1 e2
        clear hO23
        have h := zm zy_206 h 2 (q := (10, darg 0 [(4, 253), (0, (k : Int))], [(0, w32 ((99 + 8 * (k : Int)) + 2)), (4, 254)], g)) rfl
        dsimp only at h
        try rw [w32_eq (z := (99 + 8 * (k : Int)) + 2) (v := 101 + 8 * (k : Int)) (by omega) (by omega) (by omega)] at h
        have h := zald zy_206 h rfl rfl (dvb_254 (i := 101 + 8 * (k : Int)) (by omega) (by omega))
        dsimp only at h
        try rw [show (101 + 8 * (k : Int)).toNat = 101 + 8 * k from by omega] at h
        try rw [hO.2.2.1] at h
        have h := zret zy_206 h rfl rfl
        obtain ⟨e1, e2⟩ := oI h
        have h := hO20
        rw [e1, e2] at h
        clear e1 e2
        clear hO20
        have h := zm zy_237 h 2 (q := (92, dset (dset (dset (dset (dset lf 4 (0, (k : Int))) 3 (0, (T : Int))) 2 (0, (Q : Int))) 1 (0, (P : Int))) 0 (4, 253), [(0, (k : Int)), (4, 253), (0, (q : Int)), (0, (T : Int)), (0, (Q : Int)), (4, 253)], g)) rfl
        dsimp only at h
        obtain ⟨gz24, rz25, hk, h⟩ := zcallI zy_237 h rfl rfl zy_204 zk_204
        dsimp only at hk h
        have hO26 := h
        have h := hk
        clear hk
        have h := zm zy_204 h 3 (q := (5, darg 0 [(4, 253), (0, (k : Int))], [(0, (k : Int)), (4, 254)], g)) rfl
        dsimp only at h
        obtain ⟨gz27, rz28, hk, h⟩ := zcallI zy_204 h rfl rfl zy_199 zk_199
        dsimp only at hk h
        have hO29 := h
        have h := hk
        clear hk
        have h := zm zy_199 h 5 (q := (7, darg 0 [(0, (k : Int))], [(0, w32 (99 + (w32 (8 * ((k : Int))))))], g)) rfl
        dsimp only at h
        try rw [w32_eq (z := 8 * ((k : Int))) (v := 8 * (k : Int)) (by omega) (by omega) (by omega)] at h
        try rw [w32_eq (z := 99 + (8 * (k : Int))) (v := 99 + 8 * (k : Int)) (by omega) (by omega) (by omega)] at h
        have h := zret zy_199 h rfl rfl
        obtain ⟨e1, e2⟩ := oI h
        have h := hO29
        rw [e1, e2] at h
        clear e1 e2
        clear hO29
        have h := zm zy_204 h 2 (q := (10, darg 0 [(4, 253), (0, (k : Int))], [(0, w32 ((99 + 8 * (k : Int)) + 3)), (4, 254)], g)) rfl
        dsimp only at h
        try rw [w32_eq (z := (99 + 8 * (k : Int)) + 3) (v := 102 + 8 * (k : Int)) (by omega) (by omega) (by omega)] at h
        have h := zald zy_204 h rfl rfl (dvb_254 (i := 102 + 8 * (k : Int)) (by omega) (by omega))
        dsimp only at h
        try rw [show (102 + 8 * (k : Int)).toNat = 102 + 8 * k from by omega] at h
        try rw [hO.2.2.2.1] at h
        have h := zret zy_204 h rfl rfl
        obtain ⟨e1, e2⟩ := oI h
        have h := hO26
        rw [e1, e2] at h
        clear e1 e2
        clear hO26
        obtain ⟨g_1, r_1, hk, h⟩ := zcallI zy_237 h rfl rfl zy_231 zk_231
        dsimp only at hk h
        refine Or.inr (⟨⟨hc8, hc16⟩, ?_⟩)
        refine ⟨g_1, r_1, hk, ?_⟩
        have h := zm zy_237 h 1 (q := (cond (crel .ne r_1 0) 103 101, dset (dset (dset (dset (dset lf 4 (0, (k : Int))) 3 (0, (T : Int))) 2 (0, (Q : Int))) 1 (0, (P : Int))) 0 (4, 253), [], g_1)) rfl
        dsimp only at h
        rcases zif_ne h with ⟨hc30, h⟩ | ⟨hc30, h⟩
        · have h := zm zy_237 h 2 (q := (50, dset (dset (dset (dset (dset (dset lf 4 (0, (k : Int))) 3 (0, (T : Int))) 2 (0, (Q : Int))) 1 (0, (P : Int))) 0 (4, 253)) 4 (0, w32 (((k : Int)) + 1)), [], g_1)) rfl
          dsimp only at h
          try rw [w32_eq (z := ((k : Int)) + 1) (v := 1 + (k : Int)) (by omega) (by omega) (by omega)] at h
          refine Or.inl (⟨hc30, ?_⟩)
          exact ⟨_, rfl, rfl, rfl, rfl, rfl, h⟩
        · have h := zm zy_237 h 1 (q := (102, dset (dset (dset (dset (dset lf 4 (0, (k : Int))) 3 (0, (T : Int))) 2 (0, (Q : Int))) 1 (0, (P : Int))) 0 (4, 253), [(0, 0)], g_1)) rfl
          dsimp only at h
          refine Or.inr (⟨hc30, ?_⟩)
          exact zret zy_237 h rfl rfl
theorem m_chb_e {sv : Nat → Int32} {L n : Nat} {lf : dlf} {g : cg} {o : cg × Option cv} {P Q T k N : Nat} (rP : P ≤ 5) (rQ : Q ≤ 4) (rT : T ≤ 7) (rk : k ≤ 16) (rN : N ≤ 16) (hN : g 254 2 = (N : Int)) (hge : N ≤ k) (h : zr sv L (n + 1) 237 50 lf [] g o) (hl0 : lf 0 = (4, 253)) (hl1 : lf 1 = (0, (P : Int))) (hl2 : lf 2 = (0, (Q : Int))) (hl3 : lf 3 = (0, (T : Int))) (hl4 : lf 4 = (0, (k : Int))) : o = (g, some (0, 1)) := by
  rw [zov hl0, zov hl1, zov hl2, zov hl3, zov hl4] at h
  have h := zm1 zy_237 h 5 (q := (cond (crel .ge ((k : Int)) (g 254 2)) 109 61, dset (dset (dset (dset (dset lf 4 (0, (k : Int))) 3 (0, (T : Int))) 2 (0, (Q : Int))) 1 (0, (P : Int))) 0 (4, 253), [], g)) rfl
  dsimp only at h
  try rw [hN] at h
  rcases zif_ge h with ⟨hc1, h⟩ | ⟨hc1, h⟩
  · have h := zm zy_237 h 1 (q := (110, dset (dset (dset (dset (dset lf 4 (0, (k : Int))) 3 (0, (T : Int))) 2 (0, (Q : Int))) 1 (0, (P : Int))) 0 (4, 253), [(0, 1)], g)) rfl
    dsimp only at h
    exact zret zy_237 h rfl rfl
  · exact absurd hc1 (by omega)
end
