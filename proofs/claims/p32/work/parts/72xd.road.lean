/-! OATHS on both sides: printed by program (wip/tools/zrd.py) -/
def ban (a b : Int) : Int := (i32 a &&& i32 b).toInt
def bor (a b : Int) : Int := (i32 a ||| i32 b).toInt
def bsl (a b : Int) : Int := (i32 a <<< (i32 b &&& 31)).toInt
def bsr (a b : Int) : Int := (i32 a >>> (i32 b &&& 31)).toInt
def lan (a b : Int) : Int := (i64 a &&& i64 b).toInt
def lor (a b : Int) : Int := (i64 a ||| i64 b).toInt
def lsl (a b : Int) : Int := (i64 a <<< ((i32 b).toInt64 &&& 63)).toInt
def lsr (a b : Int) : Int := (i64 a >>> ((i32 b).toInt64 &&& 63)).toInt
def qdi (a b : Int) : Int := (i32 a / i32 b).toInt
def qre (a b : Int) : Int := (i32 a - i32 a / i32 b * i32 b).toInt
theorem w32_eq {z v : Int} (h : z = v) (h1 : -2147483648 ≤ v) (h2 : v < 2147483648) : w32 z = v := by rw [h]; exact w32_id h1 h2
theorem w64_eq {z v : Int} (h : z = v) (h1 : -9223372036854775808 ≤ v) (h2 : v < 9223372036854775808) : w64 z = v := by rw [h]; exact w64_id h1 h2
section
set_option maxRecDepth 100000
theorem zy_25 : xg xcode 25 = some xt_25 := rfl
theorem zk_25 : zkc 1 xt_25 = true := by decide +kernel
theorem zy_26 : xg xcode 26 = some xt_26 := rfl
theorem zk_26 : zkc 1 xt_26 = true := by decide +kernel
theorem zy_108 : xg xcode 108 = some xt_108 := rfl
theorem zk_108 : zkc 1 xt_108 = true := by decide +kernel
theorem zy_109 : xg xcode 109 = some xt_109 := rfl
theorem zk_109 : zkc 1 xt_109 = true := by decide +kernel
theorem zy_161 : xg xcode 161 = some xt_161 := rfl
theorem zk_161 : zkc 1 xt_161 = true := by decide +kernel
theorem zy_236 : xg xcode 236 = some xt_236 := rfl
theorem zk_236 : zkc 1 xt_236 = true := by decide +kernel
theorem zy_313 : xg xcode 313 = some xt_313 := rfl
theorem zk_313 : zkc 1 xt_313 = true := by decide +kernel
theorem zy_314 : xg xcode 314 = some xt_314 := rfl
theorem zk_314 : zkc 1 xt_314 = true := by decide +kernel
theorem zy_317 : xg xcode 317 = some xt_317 := rfl
theorem zk_317 : zkc 1 xt_317 = true := by decide +kernel
theorem zy_318 : xg xcode 318 = some xt_318 := rfl
theorem zk_318 : zkc 1 xt_318 = true := by decide +kernel
theorem m_ride {sv : Nat → Int32} {L n : Nat} {lf : dlf} {g : cg} {o : cg × Option cv} {a : Int} (h : zr sv L n 314 0 lf [] g o) (hl0 : lf 0 = (4, 253)) (hl1 : lf 1 = (0, a)) : (((csgn (a - 0) < 0) ∨ (0 ≤ csgn (a - 0) ∧ 0 < csgn (a - 60))) ∧ (o = (cup g 253 2 1, some (0, 0)))) ∨ ((0 ≤ csgn (a - 0) ∧ csgn (a - 60) ≤ 0) ∧ (o = (cup (cup g 254 5 a) 253 2 0, some (0, 1)))) := by
  rw [zov hl0, zov hl1] at h
  have h := zm zy_314 h 4 (q := (6, dset (dset lf 1 (0, a)) 0 (4, 253), [(2, 60), (2, 0), (2, a)], g)) rfl
  dsimp only at h
  obtain ⟨gz1, rz2, hk, h⟩ := zcallI zy_314 h rfl rfl zy_236 zk_236
  dsimp only at hk h
  have hO3 := h
  have h := hk
  clear hk
  have h := zm zy_236 h 4 (q := (cond (crel .lt (csgn (a - 0)) 0) 17 6, darg 0 [(2, a), (2, 0), (2, 60)], [], g)) rfl
  dsimp only at h
  rcases zif_lt h with ⟨hc4, h⟩ | ⟨hc4, h⟩
  · have h := zm zy_236 h 1 (q := (18, darg 0 [(2, a), (2, 0), (2, 60)], [(0, 0)], g)) rfl
    dsimp only at h
    have h := zret zy_236 h rfl rfl
    obtain ⟨e1, e2⟩ := oI h
    have h := hO3
    rw [e1, e2] at h
    clear e1 e2
    clear hO3
    have h := zm zy_314 h 3 (q := (14, dset (dset lf 1 (0, a)) 0 (4, 253), [(0, 1), (4, 253)], g)) rfl
    dsimp only at h
    obtain ⟨gz5, rz6, hk, h⟩ := zcallI zy_314 h rfl rfl zy_161 zk_161
    dsimp only at hk h
    have hO7 := h
    have h := hk
    clear hk
    have h := zm zy_161 h 6 (q := (14, darg 0 [(4, 253), (0, 1)], [(0, 0)], cup g 253 2 1)) rfl
    dsimp only at h
    have h := zret zy_161 h rfl rfl
    obtain ⟨e1, e2⟩ := oI h
    have h := hO7
    rw [e1, e2] at h
    clear e1 e2
    clear hO7
    refine Or.inl (⟨Or.inl (hc4), ?_⟩)
    exact zret zy_314 h rfl rfl
  · have h := zm zy_236 h 4 (q := (cond (crel .gt (csgn (a - 60)) 0) 17 13, darg 0 [(2, a), (2, 0), (2, 60)], [], g)) rfl
    dsimp only at h
    rcases zif_gt h with ⟨hc8, h⟩ | ⟨hc8, h⟩
    · have h := zm zy_236 h 1 (q := (18, darg 0 [(2, a), (2, 0), (2, 60)], [(0, 0)], g)) rfl
      dsimp only at h
      have h := zret zy_236 h rfl rfl
      obtain ⟨e1, e2⟩ := oI h
      have h := hO3
      rw [e1, e2] at h
      clear e1 e2
      clear hO3
      have h := zm zy_314 h 3 (q := (14, dset (dset lf 1 (0, a)) 0 (4, 253), [(0, 1), (4, 253)], g)) rfl
      dsimp only at h
      obtain ⟨gz9, rz10, hk, h⟩ := zcallI zy_314 h rfl rfl zy_161 zk_161
      dsimp only at hk h
      have hO11 := h
      have h := hk
      clear hk
      have h := zm zy_161 h 6 (q := (14, darg 0 [(4, 253), (0, 1)], [(0, 0)], cup g 253 2 1)) rfl
      dsimp only at h
      have h := zret zy_161 h rfl rfl
      obtain ⟨e1, e2⟩ := oI h
      have h := hO11
      rw [e1, e2] at h
      clear e1 e2
      clear hO11
      refine Or.inl (⟨Or.inr (⟨hc4, hc8⟩), ?_⟩)
      exact zret zy_314 h rfl rfl
    · have h := zm zy_236 h 2 (q := (18, darg 0 [(2, a), (2, 0), (2, 60)], [(0, 1)], g)) rfl
      dsimp only at h
      have h := zret zy_236 h rfl rfl
      obtain ⟨e1, e2⟩ := oI h
      have h := hO3
      rw [e1, e2] at h
      clear e1 e2
      clear hO3
      have h := zm zy_314 h 8 (q := (27, dset (dset lf 1 (0, a)) 0 (4, 253), [(0, 0), (4, 253)], cup g 254 5 a)) rfl
      dsimp only at h
      obtain ⟨gz12, rz13, hk, h⟩ := zcallI zy_314 h rfl rfl zy_161 zk_161
      dsimp only at hk h
      have hO14 := h
      have h := hk
      clear hk
      have h := zm zy_161 h 7 (q := (14, darg 0 [(4, 253), (0, 0)], [(0, 1)], cup (cup g 254 5 a) 253 2 0)) rfl
      dsimp only at h
      have h := zret zy_161 h rfl rfl
      obtain ⟨e1, e2⟩ := oI h
      have h := hO14
      rw [e1, e2] at h
      clear e1 e2
      clear hO14
      refine Or.inr (⟨⟨hc4, hc8⟩, ?_⟩)
      exact zret zy_314 h rfl rfl
theorem t_ride {sv : Nat → Int32} {L n : Nat} {lf : dlf} {g : cg} {o : cg × Option cv} {a : Int} (h : zr sv L n 313 0 lf [] g o) (hl0 : lf 0 = (4, 0)) (hl1 : lf 1 = (0, a)) : (((a < 0) ∨ (0 ≤ a ∧ 60 < a)) ∧ (o = (cup g 0 0 1, some (0, 0)))) ∨ ((0 ≤ a ∧ a ≤ 60) ∧ (o = (cup (cup g 3 7 a) 0 0 0, some (0, 1)))) := by
  rw [zov hl0, zov hl1] at h
  have h := zm zy_313 h 3 (q := (4, dset (dset lf 1 (0, a)) 0 (4, 0), [(0, 60), (0, 0), (0, a)], g)) rfl
  dsimp only at h
  obtain ⟨gz1, rz2, hk, h⟩ := zcallI zy_313 h rfl rfl zy_23 zk_23
  dsimp only at hk h
  have hO3 := h
  have h := hk
  clear hk
  have h := zm zy_23 h 3 (q := (cond (crel .lt a 0) 14 5, darg 0 [(0, a), (0, 0), (0, 60)], [], g)) rfl
  dsimp only at h
  rcases zif_lt h with ⟨hc4, h⟩ | ⟨hc4, h⟩
  · have h := zm zy_23 h 1 (q := (15, darg 0 [(0, a), (0, 0), (0, 60)], [(0, 0)], g)) rfl
    dsimp only at h
    have h := zret zy_23 h rfl rfl
    obtain ⟨e1, e2⟩ := oI h
    have h := hO3
    rw [e1, e2] at h
    clear e1 e2
    clear hO3
    have h := zm zy_313 h 3 (q := (12, dset (dset lf 1 (0, a)) 0 (4, 0), [(0, 1), (4, 0)], g)) rfl
    dsimp only at h
    obtain ⟨gz5, rz6, hk, h⟩ := zcallI zy_313 h rfl rfl zy_26 zk_26
    dsimp only at hk h
    have hO7 := h
    have h := hk
    clear hk
    have h := zm zy_26 h 4 (q := (6, darg 0 [(4, 0), (0, 1)], [(0, 0)], cup g 0 0 1)) rfl
    dsimp only at h
    have h := zret zy_26 h rfl rfl
    obtain ⟨e1, e2⟩ := oI h
    have h := hO7
    rw [e1, e2] at h
    clear e1 e2
    clear hO7
    refine Or.inl (⟨Or.inl (hc4), ?_⟩)
    exact zret zy_313 h rfl rfl
  · have h := zm zy_23 h 3 (q := (cond (crel .gt a 60) 14 10, darg 0 [(0, a), (0, 0), (0, 60)], [], g)) rfl
    dsimp only at h
    rcases zif_gt h with ⟨hc8, h⟩ | ⟨hc8, h⟩
    · have h := zm zy_23 h 1 (q := (15, darg 0 [(0, a), (0, 0), (0, 60)], [(0, 0)], g)) rfl
      dsimp only at h
      have h := zret zy_23 h rfl rfl
      obtain ⟨e1, e2⟩ := oI h
      have h := hO3
      rw [e1, e2] at h
      clear e1 e2
      clear hO3
      have h := zm zy_313 h 3 (q := (12, dset (dset lf 1 (0, a)) 0 (4, 0), [(0, 1), (4, 0)], g)) rfl
      dsimp only at h
      obtain ⟨gz9, rz10, hk, h⟩ := zcallI zy_313 h rfl rfl zy_26 zk_26
      dsimp only at hk h
      have hO11 := h
      have h := hk
      clear hk
      have h := zm zy_26 h 4 (q := (6, darg 0 [(4, 0), (0, 1)], [(0, 0)], cup g 0 0 1)) rfl
      dsimp only at h
      have h := zret zy_26 h rfl rfl
      obtain ⟨e1, e2⟩ := oI h
      have h := hO11
      rw [e1, e2] at h
      clear e1 e2
      clear hO11
      refine Or.inl (⟨Or.inr (⟨hc4, hc8⟩), ?_⟩)
      exact zret zy_313 h rfl rfl
    · have h := zm zy_23 h 2 (q := (15, darg 0 [(0, a), (0, 0), (0, 60)], [(0, 1)], g)) rfl
      dsimp only at h
      have h := zret zy_23 h rfl rfl
      obtain ⟨e1, e2⟩ := oI h
      have h := hO3
      rw [e1, e2] at h
      clear e1 e2
      clear hO3
      have h := zm zy_313 h 6 (q := (25, dset (dset lf 1 (0, a)) 0 (4, 0), [(4, 0)], cup g 3 7 a)) rfl
      dsimp only at h
      obtain ⟨gz12, rz13, hk, h⟩ := zcallI zy_313 h rfl rfl zy_25 zk_25
      dsimp only at hk h
      have hO14 := h
      have h := hk
      clear hk
      have h := zm zy_25 h 4 (q := (6, darg 0 [(4, 0)], [(0, 1)], cup (cup g 3 7 a) 0 0 0)) rfl
      dsimp only at h
      have h := zret zy_25 h rfl rfl
      obtain ⟨e1, e2⟩ := oI h
      have h := hO14
      rw [e1, e2] at h
      clear e1 e2
      clear hO14
      refine Or.inr (⟨⟨hc4, hc8⟩, ?_⟩)
      exact zret zy_313 h rfl rfl
theorem t_road0 {sv : Nat → Int32} {L n : Nat} {lf : dlf} {g : cg} {o : cg × Option cv} {a b : Int} (h : zr sv L n 317 0 lf [] g o) (hl0 : lf 0 = (4, 0)) (hl1 : lf 1 = (0, a)) (hl2 : lf 2 = (0, b)) : (((a < 0) ∨ (0 ≤ a ∧ g 3 0 ≤ a) ∨ (0 ≤ a ∧ a < g 3 0 ∧ b < 0) ∨ (0 ≤ a ∧ a < g 3 0 ∧ 0 ≤ b ∧ g 3 0 ≤ b)) ∧ (o = (cup g 0 0 1, some (0, (-1))))) ∨ ((0 ≤ a ∧ a < g 3 0 ∧ 0 ≤ b ∧ b < g 3 0) ∧ (∃ g_1 r_1, zr sv L n 108 0 (darg 0 [(4, 3), (0, a), (0, b)]) [] g (g_1, some (0, r_1)) ∧ (((r_1 ≠ (-1)) ∧ (o = (cup g_1 0 0 0, some (0, r_1)))) ∨ ((r_1 = (-1)) ∧ (o = (cup g_1 0 0 6, some (0, (-1)))))))) := by
  rw [zov hl0, zov hl1, zov hl2] at h
  have h := zm zy_317 h 3 (q := (5, dset (dset (dset lf 2 (0, b)) 1 (0, a)) 0 (4, 0), [(0, a), (4, 3)], g)) rfl
  dsimp only at h
  obtain ⟨gz1, rz2, hk, h⟩ := zcallI zy_317 h rfl rfl zy_80 zk_80
  dsimp only at hk h
  have hO3 := h
  have h := hk
  clear hk
  have h := zm zy_80 h 2 (q := (cond (crel .lt a 0) 16 4, darg 0 [(4, 3), (0, a)], [], g)) rfl
  dsimp only at h
  rcases zif_lt h with ⟨hc4, h⟩ | ⟨hc4, h⟩
  · have h := zm zy_80 h 1 (q := (17, darg 0 [(4, 3), (0, a)], [(0, 0)], g)) rfl
    dsimp only at h
    have h := zret zy_80 h rfl rfl
    obtain ⟨e1, e2⟩ := oI h
    have h := hO3
    rw [e1, e2] at h
    clear e1 e2
    clear hO3
    have h := zm zy_317 h 3 (q := (24, dset (dset (dset lf 2 (0, b)) 1 (0, a)) 0 (4, 0), [(0, 1), (4, 0)], g)) rfl
    dsimp only at h
    obtain ⟨gz5, rz6, hk, h⟩ := zcallI zy_317 h rfl rfl zy_29 zk_29
    dsimp only at hk h
    have hO7 := h
    have h := hk
    clear hk
    have h := zm zy_29 h 4 (q := (6, darg 0 [(4, 0), (0, 1)], [(0, (-1))], cup g 0 0 1)) rfl
    dsimp only at h
    have h := zret zy_29 h rfl rfl
    obtain ⟨e1, e2⟩ := oI h
    have h := hO7
    rw [e1, e2] at h
    clear e1 e2
    clear hO7
    refine Or.inl (⟨Or.inl (hc4), ?_⟩)
    exact zret zy_317 h rfl rfl
  · have h := zm zy_80 h 4 (q := (cond (crel .ge a (g 3 0)) 16 12, darg 0 [(4, 3), (0, a)], [], g)) rfl
    dsimp only at h
    rcases zif_ge h with ⟨hc8, h⟩ | ⟨hc8, h⟩
    · have h := zm zy_80 h 1 (q := (17, darg 0 [(4, 3), (0, a)], [(0, 0)], g)) rfl
      dsimp only at h
      have h := zret zy_80 h rfl rfl
      obtain ⟨e1, e2⟩ := oI h
      have h := hO3
      rw [e1, e2] at h
      clear e1 e2
      clear hO3
      have h := zm zy_317 h 3 (q := (24, dset (dset (dset lf 2 (0, b)) 1 (0, a)) 0 (4, 0), [(0, 1), (4, 0)], g)) rfl
      dsimp only at h
      obtain ⟨gz9, rz10, hk, h⟩ := zcallI zy_317 h rfl rfl zy_29 zk_29
      dsimp only at hk h
      have hO11 := h
      have h := hk
      clear hk
      have h := zm zy_29 h 4 (q := (6, darg 0 [(4, 0), (0, 1)], [(0, (-1))], cup g 0 0 1)) rfl
      dsimp only at h
      have h := zret zy_29 h rfl rfl
      obtain ⟨e1, e2⟩ := oI h
      have h := hO11
      rw [e1, e2] at h
      clear e1 e2
      clear hO11
      refine Or.inl (⟨Or.inr (Or.inl (⟨hc4, hc8⟩)), ?_⟩)
      exact zret zy_317 h rfl rfl
    · have h := zm zy_80 h 2 (q := (17, darg 0 [(4, 3), (0, a)], [(0, 1)], g)) rfl
      dsimp only at h
      have h := zret zy_80 h rfl rfl
      obtain ⟨e1, e2⟩ := oI h
      have h := hO3
      rw [e1, e2] at h
      clear e1 e2
      clear hO3
      have h := zm zy_317 h 4 (q := (16, dset (dset (dset lf 2 (0, b)) 1 (0, a)) 0 (4, 0), [(0, b), (4, 3)], g)) rfl
      dsimp only at h
      obtain ⟨gz12, rz13, hk, h⟩ := zcallI zy_317 h rfl rfl zy_80 zk_80
      dsimp only at hk h
      have hO14 := h
      have h := hk
      clear hk
      have h := zm zy_80 h 2 (q := (cond (crel .lt b 0) 16 4, darg 0 [(4, 3), (0, b)], [], g)) rfl
      dsimp only at h
      rcases zif_lt h with ⟨hc15, h⟩ | ⟨hc15, h⟩
      · have h := zm zy_80 h 1 (q := (17, darg 0 [(4, 3), (0, b)], [(0, 0)], g)) rfl
        dsimp only at h
        have h := zret zy_80 h rfl rfl
        obtain ⟨e1, e2⟩ := oI h
        have h := hO14
        rw [e1, e2] at h
        clear e1 e2
        clear hO14
        have h := zm zy_317 h 3 (q := (24, dset (dset (dset lf 2 (0, b)) 1 (0, a)) 0 (4, 0), [(0, 1), (4, 0)], g)) rfl
        dsimp only at h
        obtain ⟨gz16, rz17, hk, h⟩ := zcallI zy_317 h rfl rfl zy_29 zk_29
        dsimp only at hk h
        have hO18 := h
        have h := hk
        clear hk
        have h := zm zy_29 h 4 (q := (6, darg 0 [(4, 0), (0, 1)], [(0, (-1))], cup g 0 0 1)) rfl
        dsimp only at h
        have h := zret zy_29 h rfl rfl
        obtain ⟨e1, e2⟩ := oI h
        have h := hO18
        rw [e1, e2] at h
        clear e1 e2
        clear hO18
        refine Or.inl (⟨Or.inr (Or.inr (Or.inl (⟨hc4, hc8, hc15⟩))), ?_⟩)
        exact zret zy_317 h rfl rfl
      · have h := zm zy_80 h 4 (q := (cond (crel .ge b (g 3 0)) 16 12, darg 0 [(4, 3), (0, b)], [], g)) rfl
        dsimp only at h
        rcases zif_ge h with ⟨hc19, h⟩ | ⟨hc19, h⟩
        · have h := zm zy_80 h 1 (q := (17, darg 0 [(4, 3), (0, b)], [(0, 0)], g)) rfl
          dsimp only at h
          have h := zret zy_80 h rfl rfl
          obtain ⟨e1, e2⟩ := oI h
          have h := hO14
          rw [e1, e2] at h
          clear e1 e2
          clear hO14
          have h := zm zy_317 h 3 (q := (24, dset (dset (dset lf 2 (0, b)) 1 (0, a)) 0 (4, 0), [(0, 1), (4, 0)], g)) rfl
          dsimp only at h
          obtain ⟨gz20, rz21, hk, h⟩ := zcallI zy_317 h rfl rfl zy_29 zk_29
          dsimp only at hk h
          have hO22 := h
          have h := hk
          clear hk
          have h := zm zy_29 h 4 (q := (6, darg 0 [(4, 0), (0, 1)], [(0, (-1))], cup g 0 0 1)) rfl
          dsimp only at h
          have h := zret zy_29 h rfl rfl
          obtain ⟨e1, e2⟩ := oI h
          have h := hO22
          rw [e1, e2] at h
          clear e1 e2
          clear hO22
          refine Or.inl (⟨Or.inr (Or.inr (Or.inr (⟨hc4, hc8, hc15, hc19⟩))), ?_⟩)
          exact zret zy_317 h rfl rfl
        · have h := zm zy_80 h 2 (q := (17, darg 0 [(4, 3), (0, b)], [(0, 1)], g)) rfl
          dsimp only at h
          have h := zret zy_80 h rfl rfl
          obtain ⟨e1, e2⟩ := oI h
          have h := hO14
          rw [e1, e2] at h
          clear e1 e2
          clear hO14
          have h := zm zy_317 h 5 (q := (34, dset (dset (dset lf 2 (0, b)) 1 (0, a)) 0 (4, 0), [(0, b), (0, a), (4, 3)], g)) rfl
          dsimp only at h
          obtain ⟨g_1, r_1, hk, h⟩ := zcallI zy_317 h rfl rfl zy_108 zk_108
          dsimp only at hk h
          refine Or.inr (⟨⟨hc4, hc8, hc15, hc19⟩, ?_⟩)
          refine ⟨g_1, r_1, hk, ?_⟩
          have h := zm zy_317 h 4 (q := (cond (crel .ne r_1 ((-1))) 52 43, dset (dset (dset (dset lf 2 (0, b)) 1 (0, a)) 0 (4, 0)) 3 (0, r_1), [], g_1)) rfl
          dsimp only at h
          rcases zif_ne h with ⟨hc23, h⟩ | ⟨hc23, h⟩
          · have h := zm zy_317 h 2 (q := (54, dset (dset (dset (dset lf 2 (0, b)) 1 (0, a)) 0 (4, 0)) 3 (0, r_1), [(0, r_1), (4, 0)], g_1)) rfl
            dsimp only at h
            obtain ⟨gz24, rz25, hk, h⟩ := zcallI zy_317 h rfl rfl zy_64 zk_64
            dsimp only at hk h
            have hO26 := h
            have h := hk
            clear hk
            have h := zm zy_64 h 4 (q := (6, darg 0 [(4, 0), (0, r_1)], [(0, r_1)], cup g_1 0 0 0)) rfl
            dsimp only at h
            have h := zret zy_64 h rfl rfl
            obtain ⟨e1, e2⟩ := oI h
            have h := hO26
            rw [e1, e2] at h
            clear e1 e2
            clear hO26
            refine Or.inl (⟨hc23, ?_⟩)
            exact zret zy_317 h rfl rfl
          · have h := zm zy_317 h 2 (q := (46, dset (dset (dset (dset lf 2 (0, b)) 1 (0, a)) 0 (4, 0)) 3 (0, r_1), [(0, 6), (4, 0)], g_1)) rfl
            dsimp only at h
            obtain ⟨gz27, rz28, hk, h⟩ := zcallI zy_317 h rfl rfl zy_29 zk_29
            dsimp only at hk h
            have hO29 := h
            have h := hk
            clear hk
            have h := zm zy_29 h 4 (q := (6, darg 0 [(4, 0), (0, 6)], [(0, (-1))], cup g_1 0 0 6)) rfl
            dsimp only at h
            have h := zret zy_29 h rfl rfl
            obtain ⟨e1, e2⟩ := oI h
            have h := hO29
            rw [e1, e2] at h
            clear e1 e2
            clear hO29
            have h := zm zy_317 h 1 (q := (57, dset (dset (dset (dset lf 2 (0, b)) 1 (0, a)) 0 (4, 0)) 3 (0, r_1), [(0, (-1))], cup g_1 0 0 6)) rfl
            dsimp only at h
            refine Or.inr (⟨hc23, ?_⟩)
            exact zret zy_317 h rfl rfl
theorem t_hrs {sv : Nat → Int32} {L n : Nat} {lf : dlf} {g : cg} {o : cg × Option cv} {A B : Nat} {x y sp : Int} (rA : A ≤ 4) (rB : B ≤ 4) (hx : g 4 A = x) (hy : g 4 B = y) (hs : g 3 7 = sp) (h : zr sv L n 108 0 lf [] g o) (hl0 : lf 0 = (4, 3)) (hl1 : lf 1 = (0, (A : Int))) (hl2 : lf 2 = (0, (B : Int))) : (((A : Int) ≠ (B : Int) ∧ 0 ≤ w32 (x - y) ∧ w32 (x - y) ≠ 0 ∧ 0 < sp) ∧ (o = (g, some (0, qdi (w32 ((w32 ((w32 (x - y)) + sp)) - 1)) sp)))) ∨ ((((A : Int) ≠ (B : Int) ∧ 0 ≤ w32 (x - y) ∧ w32 (x - y) ≠ 0 ∧ sp ≤ 0) ∨ ((A : Int) ≠ (B : Int) ∧ w32 (x - y) < 0 ∧ (-i32 (w32 (x - y))).toInt ≠ 0 ∧ sp ≤ 0)) ∧ (o = (g, some (0, (-1))))) ∨ ((((A : Int) ≠ (B : Int) ∧ 0 ≤ w32 (x - y) ∧ w32 (x - y) = 0) ∨ ((A : Int) ≠ (B : Int) ∧ w32 (x - y) < 0 ∧ (-i32 (w32 (x - y))).toInt = 0)) ∧ (o = (g, some (0, 1)))) ∨ (((A : Int) ≠ (B : Int) ∧ w32 (x - y) < 0 ∧ (-i32 (w32 (x - y))).toInt ≠ 0 ∧ 0 < sp) ∧ (o = (g, some (0, qdi (w32 ((w32 (((-i32 (w32 (x - y))).toInt) + sp)) - 1)) sp)))) ∨ (((A : Int) = (B : Int)) ∧ (o = (g, some (0, 0)))) := by
  rw [zov hl0, zov hl1, zov hl2] at h
  have h := zm zy_108 h 3 (q := (cond (crel .ne ((A : Int)) ((B : Int))) 7 5, dset (dset (dset lf 2 (0, (B : Int))) 1 (0, (A : Int))) 0 (4, 3), [], g)) rfl
  dsimp only at h
  rcases zif_ne h with ⟨hc1, h⟩ | ⟨hc1, h⟩
  · have h := zm zy_108 h 3 (q := (12, dset (dset (dset lf 2 (0, (B : Int))) 1 (0, (A : Int))) 0 (4, 3), [(0, (A : Int)), (4, 4)], g)) rfl
    dsimp only at h
    have h := zald zy_108 h rfl rfl (dvb_4 (i := (A : Int)) (by omega) (by omega))
    dsimp only at h
    try rw [show ((A : Int)).toNat = A from by omega] at h
    try rw [hx] at h
    have h := zm zy_108 h 3 (q := (18, dset (dset (dset lf 2 (0, (B : Int))) 1 (0, (A : Int))) 0 (4, 3), [(0, (B : Int)), (4, 4), (0, x)], g)) rfl
    dsimp only at h
    have h := zald zy_108 h rfl rfl (dvb_4 (i := (B : Int)) (by omega) (by omega))
    dsimp only at h
    try rw [show ((B : Int)).toNat = B from by omega] at h
    try rw [hy] at h
    have h := zm zy_108 h 1 (q := (20, dset (dset (dset lf 2 (0, (B : Int))) 1 (0, (A : Int))) 0 (4, 3), [(0, w32 (x - y))], g)) rfl
    dsimp only at h
    obtain ⟨gz2, rz3, hk, h⟩ := zcallI zy_108 h rfl rfl zy_109 zk_109
    dsimp only at hk h
    have hO4 := h
    have h := hk
    clear hk
    have h := zm zy_109 h 2 (q := (cond (crel .ge (w32 (x - y)) 0) 9 4, darg 0 [(0, w32 (x - y))], [], g)) rfl
    dsimp only at h
    rcases zif_ge h with ⟨hc5, h⟩ | ⟨hc5, h⟩
    · have h := zm zy_109 h 1 (q := (10, darg 0 [(0, w32 (x - y))], [(0, w32 (x - y))], g)) rfl
      dsimp only at h
      have h := zret zy_109 h rfl rfl
      obtain ⟨e1, e2⟩ := oI h
      have h := hO4
      rw [e1, e2] at h
      clear e1 e2
      clear hO4
      have h := zm zy_108 h 3 (q := (cond (crel .ne (w32 (x - y)) 0) 30 28, dset (dset (dset (dset lf 2 (0, (B : Int))) 1 (0, (A : Int))) 0 (4, 3)) 3 (0, w32 (x - y)), [], g)) rfl
      dsimp only at h
      rcases zif_ne h with ⟨hc6, h⟩ | ⟨hc6, h⟩
      · have h := zm zy_108 h 3 (q := (cond (crel .gt (g 3 7) 0) 41 37, dset (dset (dset (dset lf 2 (0, (B : Int))) 1 (0, (A : Int))) 0 (4, 3)) 3 (0, w32 (x - y)), [], g)) rfl
        dsimp only at h
        try rw [hs] at h
        rcases zif_gt h with ⟨hc7, h⟩ | ⟨hc7, h⟩
        · have h := zm zy_108 h 9 (q := (54, dset (dset (dset (dset lf 2 (0, (B : Int))) 1 (0, (A : Int))) 0 (4, 3)) 3 (0, w32 (x - y)), [(0, qdi (w32 ((w32 ((w32 (x - y)) + (g 3 7))) - 1)) (g 3 7))], g)) rfl
          dsimp only at h
          try rw [hs] at h
          refine Or.inl (⟨⟨hc1, hc5, hc6, hc7⟩, ?_⟩)
          exact zret zy_108 h rfl rfl
        · have h := zm zy_108 h 2 (q := (54, dset (dset (dset (dset lf 2 (0, (B : Int))) 1 (0, (A : Int))) 0 (4, 3)) 3 (0, w32 (x - y)), [(0, (-1))], g)) rfl
          dsimp only at h
          refine Or.inr (Or.inl (⟨Or.inl (⟨hc1, hc5, hc6, hc7⟩), ?_⟩))
          exact zret zy_108 h rfl rfl
      · have h := zm zy_108 h 1 (q := (29, dset (dset (dset (dset lf 2 (0, (B : Int))) 1 (0, (A : Int))) 0 (4, 3)) 3 (0, w32 (x - y)), [(0, 1)], g)) rfl
        dsimp only at h
        refine Or.inr (Or.inr (Or.inl (⟨Or.inl (⟨hc1, hc5, hc6⟩), ?_⟩)))
        exact zret zy_108 h rfl rfl
    · have h := zm zy_109 h 3 (q := (10, darg 0 [(0, w32 (x - y))], [(0, (-i32 (w32 (x - y))).toInt)], g)) rfl
      dsimp only at h
      have h := zret zy_109 h rfl rfl
      obtain ⟨e1, e2⟩ := oI h
      have h := hO4
      rw [e1, e2] at h
      clear e1 e2
      clear hO4
      have h := zm zy_108 h 3 (q := (cond (crel .ne ((-i32 (w32 (x - y))).toInt) 0) 30 28, dset (dset (dset (dset lf 2 (0, (B : Int))) 1 (0, (A : Int))) 0 (4, 3)) 3 (0, (-i32 (w32 (x - y))).toInt), [], g)) rfl
      dsimp only at h
      rcases zif_ne h with ⟨hc8, h⟩ | ⟨hc8, h⟩
      · have h := zm zy_108 h 3 (q := (cond (crel .gt (g 3 7) 0) 41 37, dset (dset (dset (dset lf 2 (0, (B : Int))) 1 (0, (A : Int))) 0 (4, 3)) 3 (0, (-i32 (w32 (x - y))).toInt), [], g)) rfl
        dsimp only at h
        try rw [hs] at h
        rcases zif_gt h with ⟨hc9, h⟩ | ⟨hc9, h⟩
        · have h := zm zy_108 h 9 (q := (54, dset (dset (dset (dset lf 2 (0, (B : Int))) 1 (0, (A : Int))) 0 (4, 3)) 3 (0, (-i32 (w32 (x - y))).toInt), [(0, qdi (w32 ((w32 (((-i32 (w32 (x - y))).toInt) + (g 3 7))) - 1)) (g 3 7))], g)) rfl
          dsimp only at h
          try rw [hs] at h
          refine Or.inr (Or.inr (Or.inr (Or.inl (⟨⟨hc1, hc5, hc8, hc9⟩, ?_⟩))))
          exact zret zy_108 h rfl rfl
        · have h := zm zy_108 h 2 (q := (54, dset (dset (dset (dset lf 2 (0, (B : Int))) 1 (0, (A : Int))) 0 (4, 3)) 3 (0, (-i32 (w32 (x - y))).toInt), [(0, (-1))], g)) rfl
          dsimp only at h
          refine Or.inr (Or.inl (⟨Or.inr (⟨hc1, hc5, hc8, hc9⟩), ?_⟩))
          exact zret zy_108 h rfl rfl
      · have h := zm zy_108 h 1 (q := (29, dset (dset (dset (dset lf 2 (0, (B : Int))) 1 (0, (A : Int))) 0 (4, 3)) 3 (0, (-i32 (w32 (x - y))).toInt), [(0, 1)], g)) rfl
        dsimp only at h
        refine Or.inr (Or.inr (Or.inl (⟨Or.inr (⟨hc1, hc5, hc8⟩), ?_⟩)))
        exact zret zy_108 h rfl rfl
  · have h := zm zy_108 h 1 (q := (6, dset (dset (dset lf 2 (0, (B : Int))) 1 (0, (A : Int))) 0 (4, 3), [(0, 0)], g)) rfl
    dsimp only at h
    refine Or.inr (Or.inr (Or.inr (Or.inr (⟨hc1, ?_⟩))))
    exact zret zy_108 h rfl rfl
theorem m_road33 {sv : Nat → Int32} {L n : Nat} {lf : dlf} {g : cg} {o : cg × Option cv} {A B : Nat} {x y sp : Int} (rA : A ≤ 4) (rB : B ≤ 4) (hx : g 254 (10 + A) = x) (hy : g 254 (10 + B) = y) (hs : g 254 5 = sp) (h : zr sv L n 318 33 lf [] g o) (hl0 : lf 0 = (4, 253)) (hl1 : lf 1 = (0, (A : Int))) (hl2 : lf 2 = (0, (B : Int))) : ((0 ≤ w32 (x - y) ∧ w32 (x - y) ≠ 0 ∧ sp ≠ 0) ∧ (o = (cup g 253 2 0, some (0, qdi (w32 ((w32 ((w32 (x - y)) + sp)) - 1)) sp)))) ∨ (((0 ≤ w32 (x - y) ∧ w32 (x - y) ≠ 0 ∧ sp = 0) ∨ (w32 (x - y) < 0 ∧ (-i32 (w32 (x - y))).toInt ≠ 0 ∧ sp = 0)) ∧ (o = (cup g 253 2 6, some (0, (-1))))) ∨ (((0 ≤ w32 (x - y) ∧ w32 (x - y) = 0) ∨ (w32 (x - y) < 0 ∧ (-i32 (w32 (x - y))).toInt = 0)) ∧ (o = (cup g 253 2 0, some (0, 1)))) ∨ ((w32 (x - y) < 0 ∧ (-i32 (w32 (x - y))).toInt ≠ 0 ∧ sp ≠ 0) ∧ (o = (cup g 253 2 0, some (0, qdi (w32 ((w32 (((-i32 (w32 (x - y))).toInt) + sp)) - 1)) sp)))) := by
  rw [zov hl0, zov hl1, zov hl2] at h
  have h := zm zy_318 h 5 (q := (41, dset (dset (dset lf 2 (0, (B : Int))) 1 (0, (A : Int))) 0 (4, 253), [(0, w32 (10 + ((A : Int)))), (4, 254)], g)) rfl
  dsimp only at h
  try rw [w32_eq (z := 10 + ((A : Int))) (v := 10 + (A : Int)) (by omega) (by omega) (by omega)] at h
  have h := zald zy_318 h rfl rfl (dvb_254 (i := 10 + (A : Int)) (by omega) (by omega))
  dsimp only at h
  try rw [show (10 + (A : Int)).toNat = 10 + A from by omega] at h
  try rw [hx] at h
  have h := zm zy_318 h 5 (q := (50, dset (dset (dset lf 2 (0, (B : Int))) 1 (0, (A : Int))) 0 (4, 253), [(0, w32 (10 + ((B : Int)))), (4, 254), (0, x)], g)) rfl
  dsimp only at h
  try rw [w32_eq (z := 10 + ((B : Int))) (v := 10 + (B : Int)) (by omega) (by omega) (by omega)] at h
  have h := zald zy_318 h rfl rfl (dvb_254 (i := 10 + (B : Int)) (by omega) (by omega))
  dsimp only at h
  try rw [show (10 + (B : Int)).toNat = 10 + B from by omega] at h
  try rw [hy] at h
  have h := zm zy_318 h 1 (q := (52, dset (dset (dset lf 2 (0, (B : Int))) 1 (0, (A : Int))) 0 (4, 253), [(0, w32 (x - y))], g)) rfl
  dsimp only at h
  obtain ⟨gz1, rz2, hk, h⟩ := zcallI zy_318 h rfl rfl zy_109 zk_109
  dsimp only at hk h
  have hO3 := h
  have h := hk
  clear hk
  have h := zm zy_109 h 2 (q := (cond (crel .ge (w32 (x - y)) 0) 9 4, darg 0 [(0, w32 (x - y))], [], g)) rfl
  dsimp only at h
  rcases zif_ge h with ⟨hc4, h⟩ | ⟨hc4, h⟩
  · have h := zm zy_109 h 1 (q := (10, darg 0 [(0, w32 (x - y))], [(0, w32 (x - y))], g)) rfl
    dsimp only at h
    have h := zret zy_109 h rfl rfl
    obtain ⟨e1, e2⟩ := oI h
    have h := hO3
    rw [e1, e2] at h
    clear e1 e2
    clear hO3
    have h := zm zy_318 h 3 (q := (cond (crel .ne (w32 (x - y)) 0) 66 60, dset (dset (dset (dset lf 2 (0, (B : Int))) 1 (0, (A : Int))) 0 (4, 253)) 3 (0, w32 (x - y)), [], g)) rfl
    dsimp only at h
    rcases zif_ne h with ⟨hc5, h⟩ | ⟨hc5, h⟩
    · have h := zm zy_318 h 5 (q := (cond (crel .ne (g 254 5) 0) 84 75, dset (dset (dset (dset lf 2 (0, (B : Int))) 1 (0, (A : Int))) 0 (4, 253)) 3 (0, w32 (x - y)), [], g)) rfl
      dsimp only at h
      try rw [hs] at h
      rcases zif_ne h with ⟨hc6, h⟩ | ⟨hc6, h⟩
      · have h := zm zy_318 h 14 (q := (102, dset (dset (dset (dset lf 2 (0, (B : Int))) 1 (0, (A : Int))) 0 (4, 253)) 3 (0, w32 (x - y)), [(0, qdi (w32 ((w32 ((w32 (x - y)) + (g 254 5))) - 1)) (g 254 5)), (4, 253)], g)) rfl
        dsimp only at h
        try rw [hs] at h
        obtain ⟨gz7, rz8, hk, h⟩ := zcallI zy_318 h rfl rfl zy_192 zk_192
        dsimp only at hk h
        have hO9 := h
        have h := hk
        clear hk
        have h := zm zy_192 h 4 (q := (6, darg 0 [(4, 253), (0, qdi (w32 ((w32 ((w32 (x - y)) + sp)) - 1)) sp)], [(0, qdi (w32 ((w32 ((w32 (x - y)) + sp)) - 1)) sp)], cup g 253 2 0)) rfl
        dsimp only at h
        have h := zret zy_192 h rfl rfl
        obtain ⟨e1, e2⟩ := oI h
        have h := hO9
        rw [e1, e2] at h
        clear e1 e2
        clear hO9
        refine Or.inl (⟨⟨hc4, hc5, hc6⟩, ?_⟩)
        exact zret zy_318 h rfl rfl
      · have h := zm zy_318 h 2 (q := (78, dset (dset (dset (dset lf 2 (0, (B : Int))) 1 (0, (A : Int))) 0 (4, 253)) 3 (0, w32 (x - y)), [(0, 6), (4, 253)], g)) rfl
        dsimp only at h
        obtain ⟨gz10, rz11, hk, h⟩ := zcallI zy_318 h rfl rfl zy_170 zk_170
        dsimp only at hk h
        have hO12 := h
        have h := hk
        clear hk
        have h := zm zy_170 h 4 (q := (6, darg 0 [(4, 253), (0, 6)], [(0, (-1))], cup g 253 2 6)) rfl
        dsimp only at h
        have h := zret zy_170 h rfl rfl
        obtain ⟨e1, e2⟩ := oI h
        have h := hO12
        rw [e1, e2] at h
        clear e1 e2
        clear hO12
        have h := zm zy_318 h 1 (q := (105, dset (dset (dset (dset lf 2 (0, (B : Int))) 1 (0, (A : Int))) 0 (4, 253)) 3 (0, w32 (x - y)), [(0, (-1))], cup g 253 2 6)) rfl
        dsimp only at h
        refine Or.inr (Or.inl (⟨Or.inl (⟨hc4, hc5, hc6⟩), ?_⟩))
        exact zret zy_318 h rfl rfl
    · have h := zm zy_318 h 2 (q := (62, dset (dset (dset (dset lf 2 (0, (B : Int))) 1 (0, (A : Int))) 0 (4, 253)) 3 (0, w32 (x - y)), [(0, 1), (4, 253)], g)) rfl
      dsimp only at h
      obtain ⟨gz13, rz14, hk, h⟩ := zcallI zy_318 h rfl rfl zy_192 zk_192
      dsimp only at hk h
      have hO15 := h
      have h := hk
      clear hk
      have h := zm zy_192 h 4 (q := (6, darg 0 [(4, 253), (0, 1)], [(0, 1)], cup g 253 2 0)) rfl
      dsimp only at h
      have h := zret zy_192 h rfl rfl
      obtain ⟨e1, e2⟩ := oI h
      have h := hO15
      rw [e1, e2] at h
      clear e1 e2
      clear hO15
      refine Or.inr (Or.inr (Or.inl (⟨Or.inl (⟨hc4, hc5⟩), ?_⟩)))
      exact zret zy_318 h rfl rfl
  · have h := zm zy_109 h 3 (q := (10, darg 0 [(0, w32 (x - y))], [(0, (-i32 (w32 (x - y))).toInt)], g)) rfl
    dsimp only at h
    have h := zret zy_109 h rfl rfl
    obtain ⟨e1, e2⟩ := oI h
    have h := hO3
    rw [e1, e2] at h
    clear e1 e2
    clear hO3
    have h := zm zy_318 h 3 (q := (cond (crel .ne ((-i32 (w32 (x - y))).toInt) 0) 66 60, dset (dset (dset (dset lf 2 (0, (B : Int))) 1 (0, (A : Int))) 0 (4, 253)) 3 (0, (-i32 (w32 (x - y))).toInt), [], g)) rfl
    dsimp only at h
    rcases zif_ne h with ⟨hc16, h⟩ | ⟨hc16, h⟩
    · have h := zm zy_318 h 5 (q := (cond (crel .ne (g 254 5) 0) 84 75, dset (dset (dset (dset lf 2 (0, (B : Int))) 1 (0, (A : Int))) 0 (4, 253)) 3 (0, (-i32 (w32 (x - y))).toInt), [], g)) rfl
      dsimp only at h
      try rw [hs] at h
      rcases zif_ne h with ⟨hc17, h⟩ | ⟨hc17, h⟩
      · have h := zm zy_318 h 14 (q := (102, dset (dset (dset (dset lf 2 (0, (B : Int))) 1 (0, (A : Int))) 0 (4, 253)) 3 (0, (-i32 (w32 (x - y))).toInt), [(0, qdi (w32 ((w32 (((-i32 (w32 (x - y))).toInt) + (g 254 5))) - 1)) (g 254 5)), (4, 253)], g)) rfl
        dsimp only at h
        try rw [hs] at h
        obtain ⟨gz18, rz19, hk, h⟩ := zcallI zy_318 h rfl rfl zy_192 zk_192
        dsimp only at hk h
        have hO20 := h
        have h := hk
        clear hk
        have h := zm zy_192 h 4 (q := (6, darg 0 [(4, 253), (0, qdi (w32 ((w32 (((-i32 (w32 (x - y))).toInt) + sp)) - 1)) sp)], [(0, qdi (w32 ((w32 (((-i32 (w32 (x - y))).toInt) + sp)) - 1)) sp)], cup g 253 2 0)) rfl
        dsimp only at h
        have h := zret zy_192 h rfl rfl
        obtain ⟨e1, e2⟩ := oI h
        have h := hO20
        rw [e1, e2] at h
        clear e1 e2
        clear hO20
        refine Or.inr (Or.inr (Or.inr (⟨⟨hc4, hc16, hc17⟩, ?_⟩)))
        exact zret zy_318 h rfl rfl
      · have h := zm zy_318 h 2 (q := (78, dset (dset (dset (dset lf 2 (0, (B : Int))) 1 (0, (A : Int))) 0 (4, 253)) 3 (0, (-i32 (w32 (x - y))).toInt), [(0, 6), (4, 253)], g)) rfl
        dsimp only at h
        obtain ⟨gz21, rz22, hk, h⟩ := zcallI zy_318 h rfl rfl zy_170 zk_170
        dsimp only at hk h
        have hO23 := h
        have h := hk
        clear hk
        have h := zm zy_170 h 4 (q := (6, darg 0 [(4, 253), (0, 6)], [(0, (-1))], cup g 253 2 6)) rfl
        dsimp only at h
        have h := zret zy_170 h rfl rfl
        obtain ⟨e1, e2⟩ := oI h
        have h := hO23
        rw [e1, e2] at h
        clear e1 e2
        clear hO23
        have h := zm zy_318 h 1 (q := (105, dset (dset (dset (dset lf 2 (0, (B : Int))) 1 (0, (A : Int))) 0 (4, 253)) 3 (0, (-i32 (w32 (x - y))).toInt), [(0, (-1))], cup g 253 2 6)) rfl
        dsimp only at h
        refine Or.inr (Or.inl (⟨Or.inr (⟨hc4, hc16, hc17⟩), ?_⟩))
        exact zret zy_318 h rfl rfl
    · have h := zm zy_318 h 2 (q := (62, dset (dset (dset (dset lf 2 (0, (B : Int))) 1 (0, (A : Int))) 0 (4, 253)) 3 (0, (-i32 (w32 (x - y))).toInt), [(0, 1), (4, 253)], g)) rfl
      dsimp only at h
      obtain ⟨gz24, rz25, hk, h⟩ := zcallI zy_318 h rfl rfl zy_192 zk_192
      dsimp only at hk h
      have hO26 := h
      have h := hk
      clear hk
      have h := zm zy_192 h 4 (q := (6, darg 0 [(4, 253), (0, 1)], [(0, 1)], cup g 253 2 0)) rfl
      dsimp only at h
      have h := zret zy_192 h rfl rfl
      obtain ⟨e1, e2⟩ := oI h
      have h := hO26
      rw [e1, e2] at h
      clear e1 e2
      clear hO26
      refine Or.inr (Or.inr (Or.inl (⟨Or.inr (⟨hc4, hc16⟩), ?_⟩)))
      exact zret zy_318 h rfl rfl
theorem m_road0 {sv : Nat → Int32} {L n : Nat} {lf : dlf} {g : cg} {o : cg × Option cv} {a b : Int} (h : zr sv L n 318 0 lf [] g o) (hl0 : lf 0 = (4, 253)) (hl1 : lf 1 = (0, a)) (hl2 : lf 2 = (0, b)) : (((a < 0) ∨ (0 ≤ a ∧ g 254 0 ≤ a) ∨ (0 ≤ a ∧ a < g 254 0 ∧ b < 0) ∨ (0 ≤ a ∧ a < g 254 0 ∧ 0 ≤ b ∧ g 254 0 ≤ b)) ∧ (o = (cup g 253 2 1, some (0, (-1))))) ∨ ((0 ≤ a ∧ a < g 254 0 ∧ 0 ≤ b ∧ b < g 254 0 ∧ a ≠ b) ∧ (∃ lf', lf' 0 = (4, 253) ∧ lf' 1 = (0, a) ∧ lf' 2 = (0, b) ∧ zr sv L n 318 33 lf' [] g o)) ∨ ((0 ≤ a ∧ a < g 254 0 ∧ 0 ≤ b ∧ b < g 254 0 ∧ a = b) ∧ (o = (cup g 253 2 0, some (0, 0)))) := by
  rw [zov hl0, zov hl1, zov hl2] at h
  have h := zm zy_318 h 2 (q := (2, dset (dset (dset lf 2 (0, b)) 1 (0, a)) 0 (4, 253), [(0, a), (4, 253)], g)) rfl
  dsimp only at h
  obtain ⟨gz1, rz2, hk, h⟩ := zcallI zy_318 h rfl rfl zy_207 zk_207
  dsimp only at hk h
  have hO3 := h
  have h := hk
  clear hk
  have h := zm zy_207 h 2 (q := (cond (crel .lt a 0) 18 4, darg 0 [(4, 253), (0, a)], [], g)) rfl
  dsimp only at h
  rcases zif_lt h with ⟨hc4, h⟩ | ⟨hc4, h⟩
  · have h := zm zy_207 h 1 (q := (19, darg 0 [(4, 253), (0, a)], [(0, 0)], g)) rfl
    dsimp only at h
    have h := zret zy_207 h rfl rfl
    obtain ⟨e1, e2⟩ := oI h
    have h := hO3
    rw [e1, e2] at h
    clear e1 e2
    clear hO3
    have h := zm zy_318 h 3 (q := (18, dset (dset (dset lf 2 (0, b)) 1 (0, a)) 0 (4, 253), [(0, 1), (4, 253)], g)) rfl
    dsimp only at h
    obtain ⟨gz5, rz6, hk, h⟩ := zcallI zy_318 h rfl rfl zy_170 zk_170
    dsimp only at hk h
    have hO7 := h
    have h := hk
    clear hk
    have h := zm zy_170 h 4 (q := (6, darg 0 [(4, 253), (0, 1)], [(0, (-1))], cup g 253 2 1)) rfl
    dsimp only at h
    have h := zret zy_170 h rfl rfl
    obtain ⟨e1, e2⟩ := oI h
    have h := hO7
    rw [e1, e2] at h
    clear e1 e2
    clear hO7
    refine Or.inl (⟨Or.inl (hc4), ?_⟩)
    exact zret zy_318 h rfl rfl
  · have h := zm zy_207 h 6 (q := (cond (crel .ge a (g 254 0)) 18 14, darg 0 [(4, 253), (0, a)], [], g)) rfl
    dsimp only at h
    rcases zif_ge h with ⟨hc8, h⟩ | ⟨hc8, h⟩
    · have h := zm zy_207 h 1 (q := (19, darg 0 [(4, 253), (0, a)], [(0, 0)], g)) rfl
      dsimp only at h
      have h := zret zy_207 h rfl rfl
      obtain ⟨e1, e2⟩ := oI h
      have h := hO3
      rw [e1, e2] at h
      clear e1 e2
      clear hO3
      have h := zm zy_318 h 3 (q := (18, dset (dset (dset lf 2 (0, b)) 1 (0, a)) 0 (4, 253), [(0, 1), (4, 253)], g)) rfl
      dsimp only at h
      obtain ⟨gz9, rz10, hk, h⟩ := zcallI zy_318 h rfl rfl zy_170 zk_170
      dsimp only at hk h
      have hO11 := h
      have h := hk
      clear hk
      have h := zm zy_170 h 4 (q := (6, darg 0 [(4, 253), (0, 1)], [(0, (-1))], cup g 253 2 1)) rfl
      dsimp only at h
      have h := zret zy_170 h rfl rfl
      obtain ⟨e1, e2⟩ := oI h
      have h := hO11
      rw [e1, e2] at h
      clear e1 e2
      clear hO11
      refine Or.inl (⟨Or.inr (Or.inl (⟨hc4, hc8⟩)), ?_⟩)
      exact zret zy_318 h rfl rfl
    · have h := zm zy_207 h 2 (q := (19, darg 0 [(4, 253), (0, a)], [(0, 1)], g)) rfl
      dsimp only at h
      have h := zret zy_207 h rfl rfl
      obtain ⟨e1, e2⟩ := oI h
      have h := hO3
      rw [e1, e2] at h
      clear e1 e2
      clear hO3
      have h := zm zy_318 h 3 (q := (10, dset (dset (dset lf 2 (0, b)) 1 (0, a)) 0 (4, 253), [(0, b), (4, 253)], g)) rfl
      dsimp only at h
      obtain ⟨gz12, rz13, hk, h⟩ := zcallI zy_318 h rfl rfl zy_207 zk_207
      dsimp only at hk h
      have hO14 := h
      have h := hk
      clear hk
      have h := zm zy_207 h 2 (q := (cond (crel .lt b 0) 18 4, darg 0 [(4, 253), (0, b)], [], g)) rfl
      dsimp only at h
      rcases zif_lt h with ⟨hc15, h⟩ | ⟨hc15, h⟩
      · have h := zm zy_207 h 1 (q := (19, darg 0 [(4, 253), (0, b)], [(0, 0)], g)) rfl
        dsimp only at h
        have h := zret zy_207 h rfl rfl
        obtain ⟨e1, e2⟩ := oI h
        have h := hO14
        rw [e1, e2] at h
        clear e1 e2
        clear hO14
        have h := zm zy_318 h 3 (q := (18, dset (dset (dset lf 2 (0, b)) 1 (0, a)) 0 (4, 253), [(0, 1), (4, 253)], g)) rfl
        dsimp only at h
        obtain ⟨gz16, rz17, hk, h⟩ := zcallI zy_318 h rfl rfl zy_170 zk_170
        dsimp only at hk h
        have hO18 := h
        have h := hk
        clear hk
        have h := zm zy_170 h 4 (q := (6, darg 0 [(4, 253), (0, 1)], [(0, (-1))], cup g 253 2 1)) rfl
        dsimp only at h
        have h := zret zy_170 h rfl rfl
        obtain ⟨e1, e2⟩ := oI h
        have h := hO18
        rw [e1, e2] at h
        clear e1 e2
        clear hO18
        refine Or.inl (⟨Or.inr (Or.inr (Or.inl (⟨hc4, hc8, hc15⟩))), ?_⟩)
        exact zret zy_318 h rfl rfl
      · have h := zm zy_207 h 6 (q := (cond (crel .ge b (g 254 0)) 18 14, darg 0 [(4, 253), (0, b)], [], g)) rfl
        dsimp only at h
        rcases zif_ge h with ⟨hc19, h⟩ | ⟨hc19, h⟩
        · have h := zm zy_207 h 1 (q := (19, darg 0 [(4, 253), (0, b)], [(0, 0)], g)) rfl
          dsimp only at h
          have h := zret zy_207 h rfl rfl
          obtain ⟨e1, e2⟩ := oI h
          have h := hO14
          rw [e1, e2] at h
          clear e1 e2
          clear hO14
          have h := zm zy_318 h 3 (q := (18, dset (dset (dset lf 2 (0, b)) 1 (0, a)) 0 (4, 253), [(0, 1), (4, 253)], g)) rfl
          dsimp only at h
          obtain ⟨gz20, rz21, hk, h⟩ := zcallI zy_318 h rfl rfl zy_170 zk_170
          dsimp only at hk h
          have hO22 := h
          have h := hk
          clear hk
          have h := zm zy_170 h 4 (q := (6, darg 0 [(4, 253), (0, 1)], [(0, (-1))], cup g 253 2 1)) rfl
          dsimp only at h
          have h := zret zy_170 h rfl rfl
          obtain ⟨e1, e2⟩ := oI h
          have h := hO22
          rw [e1, e2] at h
          clear e1 e2
          clear hO22
          refine Or.inl (⟨Or.inr (Or.inr (Or.inr (⟨hc4, hc8, hc15, hc19⟩))), ?_⟩)
          exact zret zy_318 h rfl rfl
        · have h := zm zy_207 h 2 (q := (19, darg 0 [(4, 253), (0, b)], [(0, 1)], g)) rfl
          dsimp only at h
          have h := zret zy_207 h rfl rfl
          obtain ⟨e1, e2⟩ := oI h
          have h := hO14
          rw [e1, e2] at h
          clear e1 e2
          clear hO14
          have h := zm zy_318 h 4 (q := (cond (crel .ne a b) 33 27, dset (dset (dset lf 2 (0, b)) 1 (0, a)) 0 (4, 253), [], g)) rfl
          dsimp only at h
          rcases zif_ne h with ⟨hc23, h⟩ | ⟨hc23, h⟩
          · refine Or.inr (Or.inl (⟨⟨hc4, hc8, hc15, hc19, hc23⟩, ?_⟩))
            exact ⟨_, rfl, rfl, rfl, h⟩
          · have h := zm zy_318 h 2 (q := (29, dset (dset (dset lf 2 (0, b)) 1 (0, a)) 0 (4, 253), [(0, 0), (4, 253)], g)) rfl
            dsimp only at h
            obtain ⟨gz25, rz26, hk, h⟩ := zcallI zy_318 h rfl rfl zy_192 zk_192
            dsimp only at hk h
            have hO27 := h
            have h := hk
            clear hk
            have h := zm zy_192 h 4 (q := (6, darg 0 [(4, 253), (0, 0)], [(0, 0)], cup g 253 2 0)) rfl
            dsimp only at h
            have h := zret zy_192 h rfl rfl
            obtain ⟨e1, e2⟩ := oI h
            have h := hO27
            rw [e1, e2] at h
            clear e1 e2
            clear hO27
            refine Or.inr (Or.inr (⟨⟨hc4, hc8, hc15, hc19, hc23⟩, ?_⟩))
            exact zret zy_318 h rfl rfl
end
