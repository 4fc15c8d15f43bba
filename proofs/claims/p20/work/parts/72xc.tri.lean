/-! readers of trials, marks, small answers: printed by program (wip/tools/ztri.py) -/
section
theorem ztabv {sv : Nat → Int32} {L n y pc : Nat} {lf : dlf} {st : List cv} {g : cg} {o : cg × Option cv} {z v : Int} (h : zr sv L n y pc lf ((0, z) :: st) g o) (e : z = v) : zr sv L n y pc lf ((0, v) :: st) g o := by
  rw [← e]
  exact h
set_option maxRecDepth 100000
theorem zy_65 : xg xcode 65 = some xt_65 := rfl
theorem zk_65 : zkc 1 xt_65 = true := by decide +kernel
theorem zy_66 : xg xcode 66 = some xt_66 := rfl
theorem zk_66 : zkc 1 xt_66 = true := by decide +kernel
theorem zy_67 : xg xcode 67 = some xt_67 := rfl
theorem zk_67 : zkc 1 xt_67 = true := by decide +kernel
theorem zy_68 : xg xcode 68 = some xt_68 := rfl
theorem zk_68 : zkc 1 xt_68 = true := by decide +kernel
theorem zy_69 : xg xcode 69 = some xt_69 := rfl
theorem zk_69 : zkc 1 xt_69 = true := by decide +kernel
theorem zy_70 : xg xcode 70 = some xt_70 := rfl
theorem zk_70 : zkc 1 xt_70 = true := by decide +kernel
theorem zy_71 : xg xcode 71 = some xt_71 := rfl
theorem zk_71 : zkc 1 xt_71 = true := by decide +kernel
theorem zy_72 : xg xcode 72 = some xt_72 := rfl
theorem zk_72 : zkc 1 xt_72 = true := by decide +kernel
theorem zy_73 : xg xcode 73 = some xt_73 := rfl
theorem zk_73 : zkc 1 xt_73 = true := by decide +kernel
theorem zy_74 : xg xcode 74 = some xt_74 := rfl
theorem zk_74 : zkc 1 xt_74 = true := by decide +kernel
theorem zy_75 : xg xcode 75 = some xt_75 := rfl
theorem zk_75 : zkc 1 xt_75 = true := by decide +kernel
theorem zy_80 : xg xcode 80 = some xt_80 := rfl
theorem zk_80 : zkc 1 xt_80 = true := by decide +kernel
theorem zy_193 : xg xcode 193 = some xt_193 := rfl
theorem zk_193 : zkc 1 xt_193 = true := by decide +kernel
theorem zy_194 : xg xcode 194 = some xt_194 := rfl
theorem zk_194 : zkc 1 xt_194 = true := by decide +kernel
theorem zy_195 : xg xcode 195 = some xt_195 := rfl
theorem zk_195 : zkc 1 xt_195 = true := by decide +kernel
theorem zy_196 : xg xcode 196 = some xt_196 := rfl
theorem zk_196 : zkc 1 xt_196 = true := by decide +kernel
theorem zy_197 : xg xcode 197 = some xt_197 := rfl
theorem zk_197 : zkc 1 xt_197 = true := by decide +kernel
theorem zy_198 : xg xcode 198 = some xt_198 := rfl
theorem zk_198 : zkc 1 xt_198 = true := by decide +kernel
theorem zy_207 : xg xcode 207 = some xt_207 := rfl
theorem zk_207 : zkc 1 xt_207 = true := by decide +kernel
theorem zy_256 : xg xcode 256 = some xt_256 := rfl
theorem zk_256 : zkc 0 xt_256 = true := by decide +kernel
theorem zy_275 : xg xcode 275 = some xt_275 := rfl
theorem zk_275 : zkc 1 xt_275 = true := by decide +kernel
theorem zy_276 : xg xcode 276 = some xt_276 := rfl
theorem zk_276 : zkc 1 xt_276 = true := by decide +kernel
theorem zy_277 : xg xcode 277 = some xt_277 := rfl
theorem zk_277 : zkc 1 xt_277 = true := by decide +kernel
theorem zy_278 : xg xcode 278 = some xt_278 := rfl
theorem zk_278 : zkc 1 xt_278 = true := by decide +kernel
theorem zy_281 : xg xcode 281 = some xt_281 := rfl
theorem zk_281 : zkc 1 xt_281 = true := by decide +kernel
theorem zy_282 : xg xcode 282 = some xt_282 := rfl
theorem zk_282 : zkc 1 xt_282 = true := by decide +kernel
theorem zy_367 : xg xcode 367 = some xt_367 := rfl
theorem zk_367 : zkc 1 xt_367 = true := by decide +kernel
theorem zy_368 : xg xcode 368 = some xt_368 := rfl
theorem zk_368 : zkc 1 xt_368 = true := by decide +kernel
theorem zy_369 : xg xcode 369 = some xt_369 := rfl
theorem zk_369 : zkc 1 xt_369 = true := by decide +kernel
theorem zy_370 : xg xcode 370 = some xt_370 := rfl
theorem zk_370 : zkc 1 xt_370 = true := by decide +kernel
theorem ztab_14_20 {z : Int} : z = 14 ∨ z = 15 ∨ z = 16 ∨ z = 17 ∨ z = 18 ∨ z = 19 ∨ z = 20 ∨ (z < 14 ∨ 20 < z) := by omega
theorem ztab_14_22 {z : Int} : z = 14 ∨ z = 15 ∨ z = 16 ∨ z = 17 ∨ z = 18 ∨ z = 19 ∨ z = 20 ∨ z = 21 ∨ z = 22 ∨ (z < 14 ∨ 22 < z) := by omega
theorem dvp_87 {g : cg} {i : Int} (h0 : 0 ≤ i) (h1 : i < 3) : dval xh2 g 87 i.toNat = (4, 127 + 42 * i) := by
  rcases (show i = 0 ∨ i = 1 ∨ i = 2 from by omega) with e | e | e <;> subst e <;> rfl
theorem dvb_4 {g : cg} {i : Int} (h0 : 0 ≤ i) (h1 : i < 5) : dval xh2 g 4 i.toNat = (0, g 4 i.toNat) := dvb (show zck 4 13 5 = true by decide +kernel) (by decide) h0 h1
theorem dvb_5 {g : cg} {i : Int} (h0 : 0 ≤ i) (h1 : i < 5) : dval xh2 g 5 i.toNat = (2, g 5 i.toNat) := dvbL (show zck 5 14 5 = true by decide +kernel) (by decide) h0 h1
theorem dvb_51 {g : cg} {i : Int} (h0 : 0 ≤ i) (h1 : i < 60) : dval xh2 g 51 i.toNat = (0, g 51 i.toNat) := dvb (show zck 51 13 60 = true by decide +kernel) (by decide) h0 h1
theorem dvb_52 {g : cg} {i : Int} (h0 : 0 ≤ i) (h1 : i < 60) : dval xh2 g 52 i.toNat = (0, g 52 i.toNat) := dvb (show zck 52 13 60 = true by decide +kernel) (by decide) h0 h1
theorem dvb_53 {g : cg} {i : Int} (h0 : 0 ≤ i) (h1 : i < 60) : dval xh2 g 53 i.toNat = (0, g 53 i.toNat) := dvb (show zck 53 13 60 = true by decide +kernel) (by decide) h0 h1
theorem dvb_54 {g : cg} {i : Int} (h0 : 0 ≤ i) (h1 : i < 60) : dval xh2 g 54 i.toNat = (0, g 54 i.toNat) := dvb (show zck 54 13 60 = true by decide +kernel) (by decide) h0 h1
theorem dvb_55 {g : cg} {i : Int} (h0 : 0 ≤ i) (h1 : i < 60) : dval xh2 g 55 i.toNat = (0, g 55 i.toNat) := dvb (show zck 55 13 60 = true by decide +kernel) (by decide) h0 h1
theorem dvb_56 {g : cg} {i : Int} (h0 : 0 ≤ i) (h1 : i < 60) : dval xh2 g 56 i.toNat = (0, g 56 i.toNat) := dvb (show zck 56 13 60 = true by decide +kernel) (by decide) h0 h1
theorem dvb_91 {g : cg} {i : Int} (h0 : 0 ≤ i) (h1 : i < 3) : dval xh2 g 91 i.toNat = (0, g 91 i.toNat) := dvb (show zck 91 13 3 = true by decide +kernel) (by decide) h0 h1
theorem dvb_261 {g : cg} {i : Int} (h0 : 0 ≤ i) (h1 : i < 3) : dval xh2 g 261 i.toNat = (0, g 261 i.toNat) := dvb (show zck 261 13 3 = true by decide +kernel) (by decide) h0 h1
theorem t_mark {sv : Nat → Int32} {L n : Nat} {lf : dlf} {g : cg} {o : cg × Option cv} (h : zr sv L n 367 0 lf [] g o) (h0 : lf 0 = (4, 0)) : (g 0 9 < 3 ∧ (0 ≤ g 0 9 → g 0 9 < 3 → (∃ g4, zr sv L n 59 0 (darg 0 [(4, 127 + 42 * (g 0 9)), (4, 3)]) [] g (g4, none) ∧ (∃ g5 r6, zr sv L n 64 0 (darg 0 [(4, 0), (0, w32 ((g4 0 9) + 1))]) [] (cup g4 0 9 (w32 ((g4 0 9) + 1))) (g5, some (0, r6)) ∧ (o = (g5, some (0, r6))))))) ∨ (3 ≤ g 0 9 ∧ (∃ g7 r8, zr sv L n 29 0 (darg 0 [(4, 0), (0, 4)]) [] g (g7, some (0, r8)) ∧ (o = (g7, some (0, r8))))) := by
  rw [zov h0] at h
  have h := zm zy_367 h 4 (q := (cond (crel .lt (g 0 9) 3) 14 8, dset lf 0 (4, 0), [], g)) rfl
  dsimp only at h
  rcases zif_lt h with ⟨hc1, h⟩ | ⟨hc1, h⟩
  · refine Or.inl ⟨hc1, ?_⟩
    intro ha2 hb3
    have h := zm zy_367 h 4 (q := (22, dset lf 0 (4, 0), [(0, g 0 9), (4, 87)], g)) rfl
    dsimp only at h
    have h := zald zy_367 h rfl rfl (dvp_87 ha2 hb3)
    have h := zm zy_367 h 2 (q := (27, dset lf 0 (4, 0), [(4, 3), (4, 127 + 42 * (g 0 9))], g)) rfl
    dsimp only at h
    obtain ⟨g4, hk, h⟩ := zcallV zy_367 h rfl rfl zy_59 zk_59
    dsimp only at hk h
    refine ⟨g4, hk, ?_⟩
    have h := zm zy_367 h 9 (q := (45, dset lf 0 (4, 0), [(0, w32 ((g4 0 9) + 1)), (4, 0)], cup g4 0 9 (w32 ((g4 0 9) + 1)))) rfl
    dsimp only at h
    obtain ⟨g5, r6, hk, h⟩ := zcallI zy_367 h rfl rfl zy_64 zk_64
    dsimp only at hk h
    refine ⟨g5, r6, hk, ?_⟩
    exact zret zy_367 h rfl rfl
  · refine Or.inr ⟨hc1, ?_⟩
    have h := zm zy_367 h 2 (q := (10, dset lf 0 (4, 0), [(0, 4), (4, 0)], g)) rfl
    dsimp only at h
    obtain ⟨g7, r8, hk, h⟩ := zcallI zy_367 h rfl rfl zy_29 zk_29
    dsimp only at hk h
    refine ⟨g7, r8, hk, ?_⟩
    exact zret zy_367 h rfl rfl
theorem t_undo {sv : Nat → Int32} {L n : Nat} {lf : dlf} {g : cg} {o : cg × Option cv} (h : zr sv L n 369 0 lf [] g o) (h0 : lf 0 = (4, 0)) : (0 < g 0 9 ∧ (0 ≤ w32 ((g 0 9) - 1) → w32 ((g 0 9) - 1) < 3 → (∃ g4, zr sv L n 59 0 (darg 0 [(4, 3), (4, 127 + 42 * (w32 ((g 0 9) - 1)))]) [] (cup g 0 9 (w32 ((g 0 9) - 1))) (g4, none) ∧ (∃ g5 r6, zr sv L n 64 0 (darg 0 [(4, 0), (0, g4 0 9)]) [] g4 (g5, some (0, r6)) ∧ (o = (g5, some (0, r6))))))) ∨ (g 0 9 ≤ 0 ∧ (∃ g7 r8, zr sv L n 29 0 (darg 0 [(4, 0), (0, 6)]) [] g (g7, some (0, r8)) ∧ (o = (g7, some (0, r8))))) := by
  rw [zov h0] at h
  have h := zm zy_369 h 3 (q := (cond (crel .gt (g 0 9) 0) 14 7, dset lf 0 (4, 0), [], g)) rfl
  dsimp only at h
  rcases zif_gt h with ⟨hc1, h⟩ | ⟨hc1, h⟩
  · refine Or.inl ⟨hc1, ?_⟩
    intro ha2 hb3
    have h := zm zy_369 h 12 (q := (36, dset lf 0 (4, 0), [(0, w32 ((g 0 9) - 1)), (4, 87), (4, 3)], cup g 0 9 (w32 ((g 0 9) - 1)))) rfl
    dsimp only at h
    have h := zald zy_369 h rfl rfl (dvp_87 ha2 hb3)
    obtain ⟨g4, hk, h⟩ := zcallV zy_369 h rfl rfl zy_59 zk_59
    dsimp only at hk h
    refine ⟨g4, hk, ?_⟩
    have h := zm zy_369 h 3 (q := (45, dset lf 0 (4, 0), [(0, g4 0 9), (4, 0)], g4)) rfl
    dsimp only at h
    obtain ⟨g5, r6, hk, h⟩ := zcallI zy_369 h rfl rfl zy_64 zk_64
    dsimp only at hk h
    refine ⟨g5, r6, hk, ?_⟩
    exact zret zy_369 h rfl rfl
  · refine Or.inr ⟨hc1, ?_⟩
    have h := zm zy_369 h 2 (q := (10, dset lf 0 (4, 0), [(0, 6), (4, 0)], g)) rfl
    dsimp only at h
    obtain ⟨g7, r8, hk, h⟩ := zcallI zy_369 h rfl rfl zy_29 zk_29
    dsimp only at hk h
    refine ⟨g7, r8, hk, ?_⟩
    exact zret zy_369 h rfl rfl
theorem t_fault {sv : Nat → Int32} {L n : Nat} {lf : dlf} {g : cg} {o : cg × Option cv} {a : Int} (h : zr sv L n 277 0 lf [] g o) (h0 : lf 0 = (4, 0)) (h1 : lf 1 = (0, a)) : (a ≠ 0 ∧ ((a ≠ 1 ∧ (o = (g, some (0, (-1))))) ∨ (a = 1 ∧ (o = (g, some (0, g 88 11)))))) ∨ (a = 0 ∧ (o = (g, some (0, g 88 10)))) := by
  rw [zov h0, zov h1] at h
  have h := zm zy_277 h 2 (q := (cond (crel .ne a 0) 12 4, dset (dset lf 1 (0, a)) 0 (4, 0), [], g)) rfl
  dsimp only at h
  rcases zif_ne h with ⟨hc1, h⟩ | ⟨hc1, h⟩
  · refine Or.inl ⟨hc1, ?_⟩
    have h := zm zy_277 h 3 (q := (cond (crel .ne a 1) 27 17, dset (dset lf 1 (0, a)) 0 (4, 0), [], g)) rfl
    dsimp only at h
    rcases zif_ne h with ⟨hc2, h⟩ | ⟨hc2, h⟩
    · refine Or.inl ⟨hc2, ?_⟩
      have h := zm zy_277 h 1 (q := (28, dset (dset lf 1 (0, a)) 0 (4, 0), [(0, (-1))], g)) rfl
      dsimp only at h
      exact zret zy_277 h rfl rfl
    · refine Or.inr ⟨hc2, ?_⟩
      have h := zm zy_277 h 4 (q := (28, dset (dset lf 1 (0, a)) 0 (4, 0), [(0, g 88 11)], g)) rfl
      dsimp only at h
      exact zret zy_277 h rfl rfl
  · refine Or.inr ⟨hc1, ?_⟩
    have h := zm zy_277 h 3 (q := (11, dset (dset lf 1 (0, a)) 0 (4, 0), [(0, g 88 10)], g)) rfl
    dsimp only at h
    exact zret zy_277 h rfl rfl
theorem m_fault {sv : Nat → Int32} {L n : Nat} {lf : dlf} {g : cg} {o : cg × Option cv} {a : Int} (h : zr sv L n 278 0 lf [] g o) (h0 : lf 0 = (4, 253)) (h1 : lf 1 = (0, a)) : (a ≠ 0 ∧ ((a ≠ 1 ∧ (o = (g, some (0, (-1))))) ∨ (a = 1 ∧ (o = (g, some (0, g 253 17)))))) ∨ (a = 0 ∧ (o = (g, some (0, g 253 16)))) := by
  rw [zov h0, zov h1] at h
  have h := zm zy_278 h 2 (q := (cond (crel .ne a 0) 11 4, dset (dset lf 1 (0, a)) 0 (4, 253), [], g)) rfl
  dsimp only at h
  rcases zif_ne h with ⟨hc1, h⟩ | ⟨hc1, h⟩
  · refine Or.inl ⟨hc1, ?_⟩
    have h := zm zy_278 h 3 (q := (cond (crel .ne a 1) 23 16, dset (dset lf 1 (0, a)) 0 (4, 253), [], g)) rfl
    dsimp only at h
    rcases zif_ne h with ⟨hc2, h⟩ | ⟨hc2, h⟩
    · refine Or.inl ⟨hc2, ?_⟩
      have h := zm zy_278 h 1 (q := (24, dset (dset lf 1 (0, a)) 0 (4, 253), [(0, (-1))], g)) rfl
      dsimp only at h
      exact zret zy_278 h rfl rfl
    · refine Or.inr ⟨hc2, ?_⟩
      have h := zm zy_278 h 3 (q := (24, dset (dset lf 1 (0, a)) 0 (4, 253), [(0, g 253 17)], g)) rfl
      dsimp only at h
      exact zret zy_278 h rfl rfl
  · refine Or.inr ⟨hc1, ?_⟩
    have h := zm zy_278 h 3 (q := (24, dset (dset lf 1 (0, a)) 0 (4, 253), [(0, g 253 16)], g)) rfl
    dsimp only at h
    exact zret zy_278 h rfl rfl
theorem t_isPlace {sv : Nat → Int32} {L n : Nat} {lf : dlf} {g : cg} {o : cg × Option cv} {a : Int} (h : zr sv L n 80 0 lf [] g o) (h0 : lf 0 = (4, 3)) (h1 : lf 1 = (0, a)) : (a < 0 ∧ (o = (g, some (0, 0)))) ∨ (0 ≤ a ∧ ((g 3 0 ≤ a ∧ (o = (g, some (0, 0)))) ∨ (a < g 3 0 ∧ (o = (g, some (0, 1)))))) := by
  rw [zov h0, zov h1] at h
  have h := zm zy_80 h 2 (q := (cond (crel .lt a 0) 16 4, dset (dset lf 1 (0, a)) 0 (4, 3), [], g)) rfl
  dsimp only at h
  rcases zif_lt h with ⟨hc1, h⟩ | ⟨hc1, h⟩
  · refine Or.inl ⟨hc1, ?_⟩
    have h := zm zy_80 h 1 (q := (17, dset (dset lf 1 (0, a)) 0 (4, 3), [(0, 0)], g)) rfl
    dsimp only at h
    exact zret zy_80 h rfl rfl
  · refine Or.inr ⟨hc1, ?_⟩
    have h := zm zy_80 h 4 (q := (cond (crel .ge a (g 3 0)) 16 12, dset (dset lf 1 (0, a)) 0 (4, 3), [], g)) rfl
    dsimp only at h
    rcases zif_ge h with ⟨hc2, h⟩ | ⟨hc2, h⟩
    · refine Or.inl ⟨hc2, ?_⟩
      have h := zm zy_80 h 1 (q := (17, dset (dset lf 1 (0, a)) 0 (4, 3), [(0, 0)], g)) rfl
      dsimp only at h
      exact zret zy_80 h rfl rfl
    · refine Or.inr ⟨hc2, ?_⟩
      have h := zm zy_80 h 2 (q := (17, dset (dset lf 1 (0, a)) 0 (4, 3), [(0, 1)], g)) rfl
      dsimp only at h
      exact zret zy_80 h rfl rfl
theorem m_isPlace {sv : Nat → Int32} {L n : Nat} {lf : dlf} {g : cg} {o : cg × Option cv} {a : Int} (h : zr sv L n 207 0 lf [] g o) (h0 : lf 0 = (4, 253)) (h1 : lf 1 = (0, a)) : (a < 0 ∧ (o = (g, some (0, 0)))) ∨ (0 ≤ a ∧ ((g 254 0 ≤ a ∧ (o = (g, some (0, 0)))) ∨ (a < g 254 0 ∧ (o = (g, some (0, 1)))))) := by
  rw [zov h0, zov h1] at h
  have h := zm zy_207 h 2 (q := (cond (crel .lt a 0) 18 4, dset (dset lf 1 (0, a)) 0 (4, 253), [], g)) rfl
  dsimp only at h
  rcases zif_lt h with ⟨hc1, h⟩ | ⟨hc1, h⟩
  · refine Or.inl ⟨hc1, ?_⟩
    have h := zm zy_207 h 1 (q := (19, dset (dset lf 1 (0, a)) 0 (4, 253), [(0, 0)], g)) rfl
    dsimp only at h
    exact zret zy_207 h rfl rfl
  · refine Or.inr ⟨hc1, ?_⟩
    have h := zm zy_207 h 6 (q := (cond (crel .ge a (g 254 0)) 18 14, dset (dset lf 1 (0, a)) 0 (4, 253), [], g)) rfl
    dsimp only at h
    rcases zif_ge h with ⟨hc2, h⟩ | ⟨hc2, h⟩
    · refine Or.inl ⟨hc2, ?_⟩
      have h := zm zy_207 h 1 (q := (19, dset (dset lf 1 (0, a)) 0 (4, 253), [(0, 0)], g)) rfl
      dsimp only at h
      exact zret zy_207 h rfl rfl
    · refine Or.inr ⟨hc2, ?_⟩
      have h := zm zy_207 h 2 (q := (19, dset (dset lf 1 (0, a)) 0 (4, 253), [(0, 1)], g)) rfl
      dsimp only at h
      exact zret zy_207 h rfl rfl
theorem t_mile {sv : Nat → Int32} {L n : Nat} {lf : dlf} {g : cg} {o : cg × Option cv} {a : Int} (h : zr sv L n 281 0 lf [] g o) (h0 : lf 0 = (4, 0)) (h1 : lf 1 = (0, a)) : ∃ g1 r2, zr sv L n 80 0 (darg 0 [(4, 3), (0, a)]) [] g (g1, some (0, r2)) ∧ ((r2 = 0 ∧ (∃ g4 r5, zr sv L n 29 0 (darg 0 [(4, 0), (0, 1)]) [] g1 (g4, some (0, r5)) ∧ (o = (g4, some (0, r5))))) ∨ (r2 ≠ 0 ∧ (0 ≤ a → a < 5 → (∃ g8 r9, zr sv L n 64 0 (darg 0 [(4, 0), (0, g1 4 ((a).toNat))]) [] g1 (g8, some (0, r9)) ∧ (o = (g8, some (0, r9))))))) := by
  rw [zov h0, zov h1] at h
  have h := zm zy_281 h 3 (q := (5, dset (dset lf 1 (0, a)) 0 (4, 0), [(0, a), (4, 3)], g)) rfl
  dsimp only at h
  obtain ⟨g1, r2, hk, h⟩ := zcallI zy_281 h rfl rfl zy_80 zk_80
  dsimp only at hk h
  refine ⟨g1, r2, hk, ?_⟩
  have h := zm zy_281 h 1 (q := (cond (crel .eq r2 0) 27 11, dset (dset lf 1 (0, a)) 0 (4, 0), [], g1)) rfl
  dsimp only at h
  rcases zif_eq h with ⟨hc3, h⟩ | ⟨hc3, h⟩
  · refine Or.inl ⟨hc3, ?_⟩
    have h := zm zy_281 h 2 (q := (29, dset (dset lf 1 (0, a)) 0 (4, 0), [(0, 1), (4, 0)], g1)) rfl
    dsimp only at h
    obtain ⟨g4, r5, hk, h⟩ := zcallI zy_281 h rfl rfl zy_29 zk_29
    dsimp only at hk h
    refine ⟨g4, r5, hk, ?_⟩
    exact zret zy_281 h rfl rfl
  · refine Or.inr ⟨hc3, ?_⟩
    intro ha6 hb7
    have h := zm zy_281 h 5 (q := (20, dset (dset lf 1 (0, a)) 0 (4, 0), [(0, a), (4, 4), (4, 0)], g1)) rfl
    dsimp only at h
    have h := zald zy_281 h rfl rfl (dvb_4 ha6 hb7)
    have h : zr sv L n 281 21 (dset (dset lf 1 (0, a)) 0 (4, 0)) [(0, g1 4 ((a).toNat)), (4, 0)] (g1) o := by first | exact h | (rw [cup_at] at h; exact h) | ((repeat rw [cup_ne (by omega)] at h); exact h)
    obtain ⟨g8, r9, hk, h⟩ := zcallI zy_281 h rfl rfl zy_64 zk_64
    dsimp only at hk h
    refine ⟨g8, r9, hk, ?_⟩
    have h := zm zy_281 h 1 (q := (32, dset (dset lf 1 (0, a)) 0 (4, 0), [(0, r9)], g8)) rfl
    dsimp only at h
    exact zret zy_281 h rfl rfl
theorem m_mile {sv : Nat → Int32} {L n : Nat} {lf : dlf} {g : cg} {o : cg × Option cv} {a : Int} (h : zr sv L n 282 0 lf [] g o) (h0 : lf 0 = (4, 253)) (h1 : lf 1 = (0, a)) : ∃ g1 r2, zr sv L n 207 0 (darg 0 [(4, 253), (0, a)]) [] g (g1, some (0, r2)) ∧ ((r2 = 0 ∧ (∃ g4 r5, zr sv L n 170 0 (darg 0 [(4, 253), (0, 1)]) [] g1 (g4, some (0, r5)) ∧ (o = (g4, some (0, r5))))) ∨ (r2 ≠ 0 ∧ (0 ≤ w32 (10 + a) → w32 (10 + a) < 5208 → (∃ g8 r9, zr sv L n 192 0 (darg 0 [(4, 253), (0, g1 254 ((w32 (10 + a)).toNat))]) [] g1 (g8, some (0, r9)) ∧ (o = (g8, some (0, r9))))))) := by
  rw [zov h0, zov h1] at h
  have h := zm zy_282 h 2 (q := (2, dset (dset lf 1 (0, a)) 0 (4, 253), [(0, a), (4, 253)], g)) rfl
  dsimp only at h
  obtain ⟨g1, r2, hk, h⟩ := zcallI zy_282 h rfl rfl zy_207 zk_207
  dsimp only at hk h
  refine ⟨g1, r2, hk, ?_⟩
  have h := zm zy_282 h 1 (q := (cond (crel .eq r2 0) 24 8, dset (dset lf 1 (0, a)) 0 (4, 253), [], g1)) rfl
  dsimp only at h
  rcases zif_eq h with ⟨hc3, h⟩ | ⟨hc3, h⟩
  · refine Or.inl ⟨hc3, ?_⟩
    have h := zm zy_282 h 2 (q := (26, dset (dset lf 1 (0, a)) 0 (4, 253), [(0, 1), (4, 253)], g1)) rfl
    dsimp only at h
    obtain ⟨g4, r5, hk, h⟩ := zcallI zy_282 h rfl rfl zy_170 zk_170
    dsimp only at hk h
    refine ⟨g4, r5, hk, ?_⟩
    exact zret zy_282 h rfl rfl
  · refine Or.inr ⟨hc3, ?_⟩
    intro ha6 hb7
    have h := zm zy_282 h 6 (q := (17, dset (dset lf 1 (0, a)) 0 (4, 253), [(0, w32 (10 + a)), (4, 254), (4, 253)], g1)) rfl
    dsimp only at h
    have h := zald zy_282 h rfl rfl (dvb_254 ha6 hb7)
    have h : zr sv L n 282 18 (dset (dset lf 1 (0, a)) 0 (4, 253)) [(0, g1 254 ((w32 (10 + a)).toNat)), (4, 253)] (g1) o := by first | exact h | (rw [cup_at] at h; exact h) | ((repeat rw [cup_ne (by omega)] at h); exact h)
    obtain ⟨g8, r9, hk, h⟩ := zcallI zy_282 h rfl rfl zy_192 zk_192
    dsimp only at hk h
    refine ⟨g8, r9, hk, ?_⟩
    have h := zm zy_282 h 1 (q := (29, dset (dset lf 1 (0, a)) 0 (4, 253), [(0, r9)], g8)) rfl
    dsimp only at h
    exact zret zy_282 h rfl rfl
theorem m_mark {sv : Nat → Int32} {L n : Nat} {lf : dlf} {g : cg} {o : cg × Option cv} (h : zr sv L n 368 0 lf [] g o) (h0 : lf 0 = (4, 253)) : (g 253 39 ≠ 3 ∧ (∃ g2, zr sv L n 256 0 (darg 0 [(4, 253), (0, 0), (0, w32 ((g 253 39) + 1))]) [] (cup g 253 39 (w32 ((g 253 39) + 1))) (g2, none) ∧ (∃ g3 r4, zr sv L n 192 0 (darg 0 [(4, 253), (0, g2 253 39)]) [] g2 (g3, some (0, r4)) ∧ (o = (g3, some (0, r4)))))) ∨ (g 253 39 = 3 ∧ (∃ g5 r6, zr sv L n 170 0 (darg 0 [(4, 253), (0, 4)]) [] g (g5, some (0, r6)) ∧ (o = (g5, some (0, r6))))) := by
  rw [zov h0] at h
  have h := zm zy_368 h 4 (q := (cond (crel .ne (g 253 39) 3) 14 8, dset lf 0 (4, 253), [], g)) rfl
  dsimp only at h
  rcases zif_ne h with ⟨hc1, h⟩ | ⟨hc1, h⟩
  · refine Or.inl ⟨hc1, ?_⟩
    have h := zm zy_368 h 10 (q := (30, dset lf 0 (4, 253), [(0, w32 ((g 253 39) + 1)), (0, 0), (4, 253)], cup g 253 39 (w32 ((g 253 39) + 1)))) rfl
    dsimp only at h
    obtain ⟨g2, hk, h⟩ := zcallV zy_368 h rfl rfl zy_256 zk_256
    dsimp only at hk h
    refine ⟨g2, hk, ?_⟩
    have h := zm zy_368 h 3 (q := (38, dset lf 0 (4, 253), [(0, g2 253 39), (4, 253)], g2)) rfl
    dsimp only at h
    obtain ⟨g3, r4, hk, h⟩ := zcallI zy_368 h rfl rfl zy_192 zk_192
    dsimp only at hk h
    refine ⟨g3, r4, hk, ?_⟩
    exact zret zy_368 h rfl rfl
  · refine Or.inr ⟨hc1, ?_⟩
    have h := zm zy_368 h 2 (q := (10, dset lf 0 (4, 253), [(0, 4), (4, 253)], g)) rfl
    dsimp only at h
    obtain ⟨g5, r6, hk, h⟩ := zcallI zy_368 h rfl rfl zy_170 zk_170
    dsimp only at hk h
    refine ⟨g5, r6, hk, ?_⟩
    exact zret zy_368 h rfl rfl
theorem m_undo {sv : Nat → Int32} {L n : Nat} {lf : dlf} {g : cg} {o : cg × Option cv} (h : zr sv L n 370 0 lf [] g o) (h0 : lf 0 = (4, 253)) : (g 253 39 ≠ 0 ∧ (∃ g2, zr sv L n 256 0 (darg 0 [(4, 253), (0, g 253 39), (0, 0)]) [] g (g2, none) ∧ (∃ g3 r4, zr sv L n 192 0 (darg 0 [(4, 253), (0, w32 ((g2 253 39) - 1))]) [] (cup g2 253 39 (w32 ((g2 253 39) - 1))) (g3, some (0, r4)) ∧ (o = (g3, some (0, r4)))))) ∨ (g 253 39 = 0 ∧ (∃ g5 r6, zr sv L n 170 0 (darg 0 [(4, 253), (0, 6)]) [] g (g5, some (0, r6)) ∧ (o = (g5, some (0, r6))))) := by
  rw [zov h0] at h
  have h := zm zy_370 h 3 (q := (cond (crel .ne (g 253 39) 0) 14 7, dset lf 0 (4, 253), [], g)) rfl
  dsimp only at h
  rcases zif_ne h with ⟨hc1, h⟩ | ⟨hc1, h⟩
  · refine Or.inl ⟨hc1, ?_⟩
    have h := zm zy_370 h 4 (q := (20, dset lf 0 (4, 253), [(0, 0), (0, g 253 39), (4, 253)], g)) rfl
    dsimp only at h
    obtain ⟨g2, hk, h⟩ := zcallV zy_370 h rfl rfl zy_256 zk_256
    dsimp only at hk h
    refine ⟨g2, hk, ?_⟩
    have h := zm zy_370 h 9 (q := (38, dset lf 0 (4, 253), [(0, w32 ((g2 253 39) - 1)), (4, 253)], cup g2 253 39 (w32 ((g2 253 39) - 1)))) rfl
    dsimp only at h
    obtain ⟨g3, r4, hk, h⟩ := zcallI zy_370 h rfl rfl zy_192 zk_192
    dsimp only at hk h
    refine ⟨g3, r4, hk, ?_⟩
    exact zret zy_370 h rfl rfl
  · refine Or.inr ⟨hc1, ?_⟩
    have h := zm zy_370 h 2 (q := (10, dset lf 0 (4, 253), [(0, 6), (4, 253)], g)) rfl
    dsimp only at h
    obtain ⟨g5, r6, hk, h⟩ := zcallI zy_370 h rfl rfl zy_170 zk_170
    dsimp only at hk h
    refine ⟨g5, r6, hk, ?_⟩
    exact zret zy_370 h rfl rfl
theorem m_moves0 {sv : Nat → Int32} {L n : Nat} {lf : dlf} {g : cg} {o : cg × Option cv} {a b : Int} (h : zr sv L n 256 0 lf [] g o) (h0 : lf 0 = (4, 253)) (h1 : lf 1 = (0, a)) (h2 : lf 2 = (0, b)) : ∃ lf'1, lf'1 0 = (4, 253) ∧ lf'1 1 = (0, a) ∧ lf'1 2 = (0, b) ∧ lf'1 3 = (0, 0) ∧ zr sv L n 256 2 lf'1 [] g o := by
  rw [zov h0, zov h1, zov h2] at h
  have h := zm zy_256 h 2 (q := (2, dset (dset (dset (dset lf 2 (0, b)) 1 (0, a)) 0 (4, 253)) 3 (0, 0), [], g)) rfl
  dsimp only at h
  exact ⟨_, rfl, rfl, rfl, rfl, h⟩
theorem m_moves2 {sv : Nat → Int32} {L n : Nat} {lf : dlf} {g : cg} {o : cg × Option cv} {a b d : Int} (h : zr sv L (n + 1) 256 2 lf [] g o) (h0 : lf 0 = (4, 253)) (h1 : lf 1 = (0, a)) (h2 : lf 2 = (0, b)) (h3 : lf 3 = (0, d)) : (744 ≤ d ∧ (∃ lf'2, lf'2 0 = (4, 253) ∧ lf'2 1 = (0, a) ∧ lf'2 2 = (0, b) ∧ lf'2 3 = (0, 0) ∧ zr sv L n 256 41 lf'2 [] g o)) ∨ (d < 744 ∧ (0 ≤ w32 ((w32 (744 * a)) + d) → w32 ((w32 (744 * a)) + d) < 5208 → (∃ lf'5, lf'5 0 = (4, 253) ∧ lf'5 1 = (0, a) ∧ lf'5 2 = (0, b) ∧ lf'5 3 = (0, w32 (d + 1)) ∧ zr sv L n 256 2 lf'5 [] (cup g 254 ((w32 ((w32 (744 * b)) + d)).toNat) (g 254 ((w32 ((w32 (744 * a)) + d)).toNat))) o))) := by
  rw [zov h0, zov h1, zov h2, zov h3] at h
  have h := zm1 zy_256 h 2 (q := (cond (crel .ge d 744) 39 9, dset (dset (dset (dset lf 3 (0, d)) 2 (0, b)) 1 (0, a)) 0 (4, 253), [], g)) rfl
  dsimp only at h
  rcases zif_ge h with ⟨hc1, h⟩ | ⟨hc1, h⟩
  · refine Or.inl ⟨hc1, ?_⟩
    have h := zm zy_256 h 2 (q := (41, dset (dset (dset (dset (dset lf 3 (0, d)) 2 (0, b)) 1 (0, a)) 0 (4, 253)) 3 (0, 0), [], g)) rfl
    dsimp only at h
    exact ⟨_, rfl, rfl, rfl, rfl, h⟩
  · refine Or.inr ⟨hc1, ?_⟩
    intro ha3 hb4
    have h := zm zy_256 h 14 (q := (31, dset (dset (dset (dset lf 3 (0, d)) 2 (0, b)) 1 (0, a)) 0 (4, 253), [(0, w32 ((w32 (744 * a)) + d)), (4, 254), (0, w32 ((w32 (744 * b)) + d)), (4, 254)], g)) rfl
    dsimp only at h
    have h := zald zy_256 h rfl rfl (dvb_254 ha3 hb4)
    have h : zr sv L n 256 32 (dset (dset (dset (dset lf 3 (0, d)) 2 (0, b)) 1 (0, a)) 0 (4, 253)) [(0, g 254 ((w32 ((w32 (744 * a)) + d)).toNat)), (0, w32 ((w32 (744 * b)) + d)), (4, 254)] (g) o := by first | exact h | (rw [cup_at] at h; exact h) | ((repeat rw [cup_ne (by omega)] at h); exact h)
    have h := zm zy_256 h 3 (q := (2, dset (dset (dset (dset (dset lf 3 (0, d)) 2 (0, b)) 1 (0, a)) 0 (4, 253)) 3 (0, w32 (d + 1)), [], cup g 254 ((w32 ((w32 (744 * b)) + d)).toNat) (g 254 ((w32 ((w32 (744 * a)) + d)).toNat)))) rfl
    dsimp only at h
    exact ⟨_, rfl, rfl, rfl, rfl, h⟩
theorem m_moves41 {sv : Nat → Int32} {L n : Nat} {lf : dlf} {g : cg} {o : cg × Option cv} {a b d : Int} (h : zr sv L (n + 1) 256 41 lf [] g o) (h0 : lf 0 = (4, 253)) (h1 : lf 1 = (0, a)) (h2 : lf 2 = (0, b)) (h3 : lf 3 = (0, d)) : (12 ≤ d ∧ (o = (g, none))) ∨ (d < 12 ∧ (0 ≤ w32 ((w32 (12 * a)) + d) → w32 ((w32 (12 * a)) + d) < 72 → (∃ lf'4, lf'4 0 = (4, 253) ∧ lf'4 1 = (0, a) ∧ lf'4 2 = (0, b) ∧ lf'4 3 = (0, w32 (d + 1)) ∧ zr sv L n 256 41 lf'4 [] (cup g 255 ((w32 ((w32 (12 * b)) + d)).toNat) (g 255 ((w32 ((w32 (12 * a)) + d)).toNat))) o))) := by
  rw [zov h0, zov h1, zov h2, zov h3] at h
  have h := zm1 zy_256 h 2 (q := (cond (crel .ge d 12) 75 47, dset (dset (dset (dset lf 3 (0, d)) 2 (0, b)) 1 (0, a)) 0 (4, 253), [], g)) rfl
  dsimp only at h
  rcases zif_ge h with ⟨hc1, h⟩ | ⟨hc1, h⟩
  · refine Or.inl ⟨hc1, ?_⟩
    exact zret zy_256 h rfl rfl
  · refine Or.inr ⟨hc1, ?_⟩
    intro ha2 hb3
    have h := zm zy_256 h 14 (q := (67, dset (dset (dset (dset lf 3 (0, d)) 2 (0, b)) 1 (0, a)) 0 (4, 253), [(0, w32 ((w32 (12 * a)) + d)), (4, 255), (0, w32 ((w32 (12 * b)) + d)), (4, 255)], g)) rfl
    dsimp only at h
    have h := zald zy_256 h rfl rfl (dvb_255 ha2 hb3)
    have h : zr sv L n 256 68 (dset (dset (dset (dset lf 3 (0, d)) 2 (0, b)) 1 (0, a)) 0 (4, 253)) [(2, g 255 ((w32 ((w32 (12 * a)) + d)).toNat)), (0, w32 ((w32 (12 * b)) + d)), (4, 255)] (g) o := by first | exact h | (rw [cup_at] at h; exact h) | ((repeat rw [cup_ne (by omega)] at h); exact h)
    have h := zm zy_256 h 3 (q := (41, dset (dset (dset (dset (dset lf 3 (0, d)) 2 (0, b)) 1 (0, a)) 0 (4, 253)) 3 (0, w32 (d + 1)), [], cup g 255 ((w32 ((w32 (12 * b)) + d)).toNat) (g 255 ((w32 ((w32 (12 * a)) + d)).toNat)))) rfl
    dsimp only at h
    exact ⟨_, rfl, rfl, rfl, rfl, h⟩
theorem t_rPlc {sv : Nat → Int32} {L n : Nat} {lf : dlf} {g : cg} {o : cg × Option cv} (h : zr sv L n 47 0 lf [] g o) (h0 : lf 0 = (4, 88)) (h1 : lf 1 = (4, 3)) : (g 88 4 ≠ 2 ∧ (∃ lf'2, lf'2 0 = (4, 88) ∧ lf'2 2 = (0, (-1)) ∧ zr sv L n 47 21 lf'2 [] g o)) ∨ (g 88 4 = 2 ∧ (∃ g3 r4, zr sv L n 48 0 (darg 0 [(4, 3), (2, g 88 6)]) [] g (g3, some (0, r4)) ∧ (∃ lf'5, lf'5 0 = (4, 88) ∧ lf'5 2 = (0, r4) ∧ zr sv L n 47 21 lf'5 [] g3 o))) := by
  rw [zov h0, zov h1] at h
  have h := zm zy_47 h 4 (q := (cond (crel .ne (g 88 4) 2) 19 8, dset (dset lf 1 (4, 3)) 0 (4, 88), [], g)) rfl
  dsimp only at h
  rcases zif_ne h with ⟨hc1, h⟩ | ⟨hc1, h⟩
  · refine Or.inl ⟨hc1, ?_⟩
    have h := zm zy_47 h 2 (q := (21, dset (dset (dset lf 1 (4, 3)) 0 (4, 88)) 2 (0, (-1)), [], g)) rfl
    dsimp only at h
    exact ⟨_, rfl, rfl, h⟩
  · refine Or.inr ⟨hc1, ?_⟩
    have h := zm zy_47 h 3 (q := (13, dset (dset lf 1 (4, 3)) 0 (4, 88), [(2, g 88 6), (4, 3)], g)) rfl
    dsimp only at h
    obtain ⟨g3, r4, hk, h⟩ := zcallI zy_47 h rfl rfl zy_48 zk_48
    dsimp only at hk h
    refine ⟨g3, r4, hk, ?_⟩
    have h := zm zy_47 h 2 (q := (21, dset (dset (dset lf 1 (4, 3)) 0 (4, 88)) 2 (0, r4), [], g3)) rfl
    dsimp only at h
    exact ⟨_, rfl, rfl, h⟩
theorem t_rPlc21 {sv : Nat → Int32} {L n : Nat} {lf : dlf} {g : cg} {o : cg × Option cv} {a : Int} (h : zr sv L n 47 21 lf [] g o) (h0 : lf 0 = (4, 88)) (h2 : lf 2 = (0, a)) : (a ≠ (-1) ∧ (∃ g2, zr sv L n 37 0 (darg 0 [(4, 88)]) [] g (g2, none) ∧ (o = (g2, some (0, a))))) ∨ (a = (-1) ∧ ((g 88 4 ≠ 2 ∧ (∃ g4 r5, zr sv L n 39 0 (darg 0 [(4, 88), (0, 2)]) [] g (g4, some (0, r5)) ∧ (o = (g4, some (0, a))))) ∨ (g 88 4 = 2 ∧ (∃ g6 r7, zr sv L n 39 0 (darg 0 [(4, 88), (0, 3)]) [] g (g6, some (0, r7)) ∧ (o = (g6, some (0, a))))))) := by
  rw [zov h0, zov h2] at h
  have h := zm zy_47 h 3 (q := (cond (crel .ne a ((-1))) 47 26, dset (dset lf 2 (0, a)) 0 (4, 88), [], g)) rfl
  dsimp only at h
  rcases zif_ne h with ⟨hc1, h⟩ | ⟨hc1, h⟩
  · refine Or.inl ⟨hc1, ?_⟩
    have h := zm zy_47 h 1 (q := (48, dset (dset lf 2 (0, a)) 0 (4, 88), [(4, 88)], g)) rfl
    dsimp only at h
    obtain ⟨g2, hk, h⟩ := zcallV zy_47 h rfl rfl zy_37 zk_37
    dsimp only at hk h
    refine ⟨g2, hk, ?_⟩
    have h := zm zy_47 h 1 (q := (52, dset (dset lf 2 (0, a)) 0 (4, 88), [(0, a)], g2)) rfl
    dsimp only at h
    exact zret zy_47 h rfl rfl
  · refine Or.inr ⟨hc1, ?_⟩
    have h := zm zy_47 h 5 (q := (cond (crel .ne (g 88 4) 2) 39 35, dset (dset lf 2 (0, a)) 0 (4, 88), [(4, 88)], g)) rfl
    dsimp only at h
    rcases zif_ne h with ⟨hc3, h⟩ | ⟨hc3, h⟩
    · refine Or.inl ⟨hc3, ?_⟩
      have h := zm zy_47 h 1 (q := (40, dset (dset lf 2 (0, a)) 0 (4, 88), [(0, 2), (4, 88)], g)) rfl
      dsimp only at h
      obtain ⟨g4, r5, hk, h⟩ := zcallI zy_47 h rfl rfl zy_39 zk_39
      dsimp only at hk h
      refine ⟨g4, r5, hk, ?_⟩
      have h := zm zy_47 h 3 (q := (52, dset (dset lf 2 (0, a)) 0 (4, 88), [(0, a)], g4)) rfl
      dsimp only at h
      exact zret zy_47 h rfl rfl
    · refine Or.inr ⟨hc3, ?_⟩
      have h := zm zy_47 h 2 (q := (40, dset (dset lf 2 (0, a)) 0 (4, 88), [(0, 3), (4, 88)], g)) rfl
      dsimp only at h
      obtain ⟨g6, r7, hk, h⟩ := zcallI zy_47 h rfl rfl zy_39 zk_39
      dsimp only at hk h
      refine ⟨g6, r7, hk, ?_⟩
      have h := zm zy_47 h 3 (q := (52, dset (dset lf 2 (0, a)) 0 (4, 88), [(0, a)], g6)) rfl
      dsimp only at h
      exact zret zy_47 h rfl rfl
theorem t_rPer {sv : Nat → Int32} {L n : Nat} {lf : dlf} {g : cg} {o : cg × Option cv} (h : zr sv L n 44 0 lf [] g o) (h0 : lf 0 = (4, 88)) (h1 : lf 1 = (4, 3)) : (g 88 4 ≠ 2 ∧ (∃ lf'2, lf'2 0 = (4, 88) ∧ lf'2 2 = (0, (-1)) ∧ zr sv L n 44 21 lf'2 [] g o)) ∨ (g 88 4 = 2 ∧ (∃ g3 r4, zr sv L n 45 0 (darg 0 [(4, 3), (2, g 88 6)]) [] g (g3, some (0, r4)) ∧ (∃ lf'5, lf'5 0 = (4, 88) ∧ lf'5 2 = (0, r4) ∧ zr sv L n 44 21 lf'5 [] g3 o))) := by
  rw [zov h0, zov h1] at h
  have h := zm zy_44 h 4 (q := (cond (crel .ne (g 88 4) 2) 19 8, dset (dset lf 1 (4, 3)) 0 (4, 88), [], g)) rfl
  dsimp only at h
  rcases zif_ne h with ⟨hc1, h⟩ | ⟨hc1, h⟩
  · refine Or.inl ⟨hc1, ?_⟩
    have h := zm zy_44 h 2 (q := (21, dset (dset (dset lf 1 (4, 3)) 0 (4, 88)) 2 (0, (-1)), [], g)) rfl
    dsimp only at h
    exact ⟨_, rfl, rfl, h⟩
  · refine Or.inr ⟨hc1, ?_⟩
    have h := zm zy_44 h 3 (q := (13, dset (dset lf 1 (4, 3)) 0 (4, 88), [(2, g 88 6), (4, 3)], g)) rfl
    dsimp only at h
    obtain ⟨g3, r4, hk, h⟩ := zcallI zy_44 h rfl rfl zy_45 zk_45
    dsimp only at hk h
    refine ⟨g3, r4, hk, ?_⟩
    have h := zm zy_44 h 2 (q := (21, dset (dset (dset lf 1 (4, 3)) 0 (4, 88)) 2 (0, r4), [], g3)) rfl
    dsimp only at h
    exact ⟨_, rfl, rfl, h⟩
theorem t_rPer21 {sv : Nat → Int32} {L n : Nat} {lf : dlf} {g : cg} {o : cg × Option cv} {a : Int} (h : zr sv L n 44 21 lf [] g o) (h0 : lf 0 = (4, 88)) (h2 : lf 2 = (0, a)) : (a ≠ (-1) ∧ (∃ g2, zr sv L n 37 0 (darg 0 [(4, 88)]) [] g (g2, none) ∧ (o = (g2, some (0, a))))) ∨ (a = (-1) ∧ ((g 88 4 ≠ 2 ∧ (∃ g4 r5, zr sv L n 39 0 (darg 0 [(4, 88), (0, 2)]) [] g (g4, some (0, r5)) ∧ (o = (g4, some (0, a))))) ∨ (g 88 4 = 2 ∧ (∃ g6 r7, zr sv L n 39 0 (darg 0 [(4, 88), (0, 3)]) [] g (g6, some (0, r7)) ∧ (o = (g6, some (0, a))))))) := by
  rw [zov h0, zov h2] at h
  have h := zm zy_44 h 3 (q := (cond (crel .ne a ((-1))) 47 26, dset (dset lf 2 (0, a)) 0 (4, 88), [], g)) rfl
  dsimp only at h
  rcases zif_ne h with ⟨hc1, h⟩ | ⟨hc1, h⟩
  · refine Or.inl ⟨hc1, ?_⟩
    have h := zm zy_44 h 1 (q := (48, dset (dset lf 2 (0, a)) 0 (4, 88), [(4, 88)], g)) rfl
    dsimp only at h
    obtain ⟨g2, hk, h⟩ := zcallV zy_44 h rfl rfl zy_37 zk_37
    dsimp only at hk h
    refine ⟨g2, hk, ?_⟩
    have h := zm zy_44 h 1 (q := (52, dset (dset lf 2 (0, a)) 0 (4, 88), [(0, a)], g2)) rfl
    dsimp only at h
    exact zret zy_44 h rfl rfl
  · refine Or.inr ⟨hc1, ?_⟩
    have h := zm zy_44 h 5 (q := (cond (crel .ne (g 88 4) 2) 39 35, dset (dset lf 2 (0, a)) 0 (4, 88), [(4, 88)], g)) rfl
    dsimp only at h
    rcases zif_ne h with ⟨hc3, h⟩ | ⟨hc3, h⟩
    · refine Or.inl ⟨hc3, ?_⟩
      have h := zm zy_44 h 1 (q := (40, dset (dset lf 2 (0, a)) 0 (4, 88), [(0, 2), (4, 88)], g)) rfl
      dsimp only at h
      obtain ⟨g4, r5, hk, h⟩ := zcallI zy_44 h rfl rfl zy_39 zk_39
      dsimp only at hk h
      refine ⟨g4, r5, hk, ?_⟩
      have h := zm zy_44 h 3 (q := (52, dset (dset lf 2 (0, a)) 0 (4, 88), [(0, a)], g4)) rfl
      dsimp only at h
      exact zret zy_44 h rfl rfl
    · refine Or.inr ⟨hc3, ?_⟩
      have h := zm zy_44 h 2 (q := (40, dset (dset lf 2 (0, a)) 0 (4, 88), [(0, 3), (4, 88)], g)) rfl
      dsimp only at h
      obtain ⟨g6, r7, hk, h⟩ := zcallI zy_44 h rfl rfl zy_39 zk_39
      dsimp only at hk h
      refine ⟨g6, r7, hk, ?_⟩
      have h := zm zy_44 h 3 (q := (52, dset (dset lf 2 (0, a)) 0 (4, 88), [(0, a)], g6)) rfl
      dsimp only at h
      exact zret zy_44 h rfl rfl
theorem t_nPlc0 {sv : Nat → Int32} {L n : Nat} {lf : dlf} {g : cg} {o : cg × Option cv} {a : Int} (h : zr sv L n 48 0 lf [] g o) (h0 : lf 0 = (4, 3)) (h1 : lf 1 = (2, a)) : ∃ lf'1, lf'1 0 = (4, 3) ∧ lf'1 1 = (2, a) ∧ lf'1 3 = (0, 0) ∧ zr sv L n 48 2 lf'1 [] g o := by
  rw [zov h0, zov h1] at h
  have h := zm zy_48 h 2 (q := (2, dset (dset (dset lf 1 (2, a)) 0 (4, 3)) 3 (0, 0), [], g)) rfl
  dsimp only at h
  exact ⟨_, rfl, rfl, rfl, h⟩
theorem t_nPlc2 {sv : Nat → Int32} {L n : Nat} {lf : dlf} {g : cg} {o : cg × Option cv} {a b : Int} (h : zr sv L (n + 1) 48 2 lf [] g o) (h0 : lf 0 = (4, 3)) (h1 : lf 1 = (2, a)) (h3 : lf 3 = (0, b)) : (g 3 0 ≤ b ∧ (o = (g, some (0, (-1))))) ∨ (b < g 3 0 ∧ (0 ≤ b → b < 5 → ((csgn ((g 5 ((b).toNat)) - a) ≠ 0 ∧ (∃ lf'5, lf'5 0 = (4, 3) ∧ lf'5 1 = (2, a) ∧ lf'5 3 = (0, w32 (b + 1)) ∧ zr sv L n 48 2 lf'5 [] g o)) ∨ (csgn ((g 5 ((b).toNat)) - a) = 0 ∧ (o = (g, some (0, b))))))) := by
  rw [zov h0, zov h1, zov h3] at h
  have h := zm1 zy_48 h 3 (q := (cond (crel .ge b (g 3 0)) 29 10, dset (dset (dset lf 3 (0, b)) 1 (2, a)) 0 (4, 3), [], g)) rfl
  dsimp only at h
  rcases zif_ge h with ⟨hc1, h⟩ | ⟨hc1, h⟩
  · refine Or.inl ⟨hc1, ?_⟩
    have h := zm zy_48 h 1 (q := (30, dset (dset (dset lf 3 (0, b)) 1 (2, a)) 0 (4, 3), [(0, (-1))], g)) rfl
    dsimp only at h
    exact zret zy_48 h rfl rfl
  · refine Or.inr ⟨hc1, ?_⟩
    intro ha2 hb3
    have h := zm zy_48 h 3 (q := (15, dset (dset (dset lf 3 (0, b)) 1 (2, a)) 0 (4, 3), [(0, b), (4, 5)], g)) rfl
    dsimp only at h
    have h := zald zy_48 h rfl rfl (dvb_5 ha2 hb3)
    have h : zr sv L n 48 16 (dset (dset (dset lf 3 (0, b)) 1 (2, a)) 0 (4, 3)) [(2, g 5 ((b).toNat))] (g) o := by first | exact h | (rw [cup_at] at h; exact h) | ((repeat rw [cup_ne (by omega)] at h); exact h)
    have h := zm zy_48 h 3 (q := (cond (crel .ne (csgn ((g 5 ((b).toNat)) - a)) 0) 23 21, dset (dset (dset lf 3 (0, b)) 1 (2, a)) 0 (4, 3), [], g)) rfl
    dsimp only at h
    rcases zif_ne h with ⟨hc4, h⟩ | ⟨hc4, h⟩
    · refine Or.inl ⟨hc4, ?_⟩
      have h := zm zy_48 h 2 (q := (2, dset (dset (dset (dset lf 3 (0, b)) 1 (2, a)) 0 (4, 3)) 3 (0, w32 (b + 1)), [], g)) rfl
      dsimp only at h
      exact ⟨_, rfl, rfl, rfl, h⟩
    · refine Or.inr ⟨hc4, ?_⟩
      have h := zm zy_48 h 1 (q := (22, dset (dset (dset lf 3 (0, b)) 1 (2, a)) 0 (4, 3), [(0, b)], g)) rfl
      dsimp only at h
      exact zret zy_48 h rfl rfl
theorem t_nPer0 {sv : Nat → Int32} {L n : Nat} {lf : dlf} {g : cg} {o : cg × Option cv} {a : Int} (h : zr sv L n 45 0 lf [] g o) (h0 : lf 0 = (4, 3)) (h1 : lf 1 = (2, a)) : ∃ lf'1, lf'1 0 = (4, 3) ∧ lf'1 1 = (2, a) ∧ lf'1 3 = (0, 0) ∧ zr sv L n 45 2 lf'1 [] g o := by
  rw [zov h0, zov h1] at h
  have h := zm zy_45 h 2 (q := (2, dset (dset (dset lf 1 (2, a)) 0 (4, 3)) 3 (0, 0), [], g)) rfl
  dsimp only at h
  exact ⟨_, rfl, rfl, rfl, h⟩
theorem t_nPer2 {sv : Nat → Int32} {L n : Nat} {lf : dlf} {g : cg} {o : cg × Option cv} {a b : Int} (h : zr sv L (n + 1) 45 2 lf [] g o) (h0 : lf 0 = (4, 3)) (h1 : lf 1 = (2, a)) (h3 : lf 3 = (0, b)) : (g 3 3 ≤ b ∧ (o = (g, some (0, (-1))))) ∨ (b < g 3 3 ∧ (0 ≤ b → b < 6 → ((csgn ((g ((17 + 2 * b).toNat) 0) - a) ≠ 0 ∧ (∃ lf'5, lf'5 0 = (4, 3) ∧ lf'5 1 = (2, a) ∧ lf'5 3 = (0, w32 (b + 1)) ∧ zr sv L n 45 2 lf'5 [] g o)) ∨ (csgn ((g ((17 + 2 * b).toNat) 0) - a) = 0 ∧ (o = (g, some (0, b))))))) := by
  rw [zov h0, zov h1, zov h3] at h
  have h := zm1 zy_45 h 3 (q := (cond (crel .ge b (g 3 3)) 32 10, dset (dset (dset lf 3 (0, b)) 1 (2, a)) 0 (4, 3), [], g)) rfl
  dsimp only at h
  rcases zif_ge h with ⟨hc1, h⟩ | ⟨hc1, h⟩
  · refine Or.inl ⟨hc1, ?_⟩
    have h := zm zy_45 h 1 (q := (33, dset (dset (dset lf 3 (0, b)) 1 (2, a)) 0 (4, 3), [(0, (-1))], g)) rfl
    dsimp only at h
    exact zret zy_45 h rfl rfl
  · refine Or.inr ⟨hc1, ?_⟩
    intro ha2 hb3
    have h := zm zy_45 h 3 (q := (15, dset (dset (dset lf 3 (0, b)) 1 (2, a)) 0 (4, 3), [(0, b), (4, 6)], g)) rfl
    dsimp only at h
    have h := zald zy_45 h rfl rfl (dvp_6 ha2 hb3)
    have h := zgf zy_45 h rfl rfl (dvf_17_0 ha2 hb3)
    have h : zr sv L n 45 19 (dset (dset (dset lf 3 (0, b)) 1 (2, a)) 0 (4, 3)) [(2, g ((17 + 2 * b).toNat) 0)] (g) o := by first | exact h | (rw [cup_at] at h; exact h) | ((repeat rw [cup_ne (by omega)] at h); exact h)
    have h := zm zy_45 h 3 (q := (cond (crel .ne (csgn ((g ((17 + 2 * b).toNat) 0) - a)) 0) 26 24, dset (dset (dset lf 3 (0, b)) 1 (2, a)) 0 (4, 3), [], g)) rfl
    dsimp only at h
    rcases zif_ne h with ⟨hc4, h⟩ | ⟨hc4, h⟩
    · refine Or.inl ⟨hc4, ?_⟩
      have h := zm zy_45 h 2 (q := (2, dset (dset (dset (dset lf 3 (0, b)) 1 (2, a)) 0 (4, 3)) 3 (0, w32 (b + 1)), [], g)) rfl
      dsimp only at h
      exact ⟨_, rfl, rfl, rfl, h⟩
    · refine Or.inr ⟨hc4, ?_⟩
      have h := zm zy_45 h 1 (q := (25, dset (dset (dset lf 3 (0, b)) 1 (2, a)) 0 (4, 3), [(0, b)], g)) rfl
      dsimp only at h
      exact zret zy_45 h rfl rfl
theorem t_trials {sv : Nat → Int32} {L n : Nat} {lf : dlf} {g : cg} {o : cg × Option cv} {a : Int} (h : zr sv L n 275 0 lf [] g o) (h0 : lf 0 = (4, 0)) (h1 : lf 1 = (0, a)) : ∃ g1 r2, zr sv L n 23 0 (darg 0 [(0, a), (0, 0), (0, g 0 5)]) [] g (g1, some (0, r2)) ∧ ((r2 = 0 ∧ (∃ g4 r5, zr sv L n 29 0 (darg 0 [(4, 0), (0, 1)]) [] g1 (g4, some (0, r5)) ∧ (o = (g4, some (0, r5))))) ∨ (r2 ≠ 0 ∧ ((a ≤ 300 ∧ (∃ g7 r8, zr sv L n 65 0 (darg 0 [(4, 90), (0, a)]) [] (cup g1 0 5 0) (g7, some (0, r8)) ∧ ((r8 ≠ 0 ∧ (∃ g10, zr sv L n 63 0 (darg 0 [(4, 8), (4, 50)]) [] g7 (g10, none) ∧ (∃ g11 r12, zr sv L n 64 0 (darg 0 [(4, 0), (0, g10 8 1)]) [] g10 (g11, some (0, r12)) ∧ (o = (g11, some (0, r12)))))) ∨ (r8 = 0 ∧ (∃ g13 r14, zr sv L n 29 0 (darg 0 [(4, 0), (0, 9)]) [] g7 (g13, some (0, r14)) ∧ (o = (g13, some (0, r14)))))))) ∨ (300 < a ∧ (∃ g15 r16, zr sv L n 29 0 (darg 0 [(4, 0), (0, 1)]) [] g1 (g15, some (0, r16)) ∧ (o = (g15, some (0, r16)))))))) := by
  rw [zov h0, zov h1] at h
  have h := zm zy_275 h 4 (q := (6, dset (dset lf 1 (0, a)) 0 (4, 0), [(0, g 0 5), (0, 0), (0, a)], g)) rfl
  dsimp only at h
  obtain ⟨g1, r2, hk, h⟩ := zcallI zy_275 h rfl rfl zy_23 zk_23
  dsimp only at hk h
  refine ⟨g1, r2, hk, ?_⟩
  have h := zm zy_275 h 1 (q := (cond (crel .eq r2 0) 19 12, dset (dset lf 1 (0, a)) 0 (4, 0), [], g1)) rfl
  dsimp only at h
  rcases zif_eq h with ⟨hc3, h⟩ | ⟨hc3, h⟩
  · refine Or.inl ⟨hc3, ?_⟩
    have h := zm zy_275 h 2 (q := (21, dset (dset lf 1 (0, a)) 0 (4, 0), [(0, 1), (4, 0)], g1)) rfl
    dsimp only at h
    obtain ⟨g4, r5, hk, h⟩ := zcallI zy_275 h rfl rfl zy_29 zk_29
    dsimp only at hk h
    refine ⟨g4, r5, hk, ?_⟩
    exact zret zy_275 h rfl rfl
  · refine Or.inr ⟨hc3, ?_⟩
    have h := zm zy_275 h 3 (q := (cond (crel .le a 300) 25 19, dset (dset lf 1 (0, a)) 0 (4, 0), [], g1)) rfl
    dsimp only at h
    rcases zif_le h with ⟨hc6, h⟩ | ⟨hc6, h⟩
    · refine Or.inl ⟨hc6, ?_⟩
      have h := zm zy_275 h 6 (q := (35, dset (dset lf 1 (0, a)) 0 (4, 0), [(0, a), (4, 90)], cup g1 0 5 0)) rfl
      dsimp only at h
      obtain ⟨g7, r8, hk, h⟩ := zcallI zy_275 h rfl rfl zy_65 zk_65
      dsimp only at hk h
      refine ⟨g7, r8, hk, ?_⟩
      have h := zm zy_275 h 1 (q := (cond (crel .ne r8 0) 48 41, dset (dset lf 1 (0, a)) 0 (4, 0), [], g7)) rfl
      dsimp only at h
      rcases zif_ne h with ⟨hc9, h⟩ | ⟨hc9, h⟩
      · refine Or.inl ⟨hc9, ?_⟩
        have h := zm zy_275 h 6 (q := (62, dset (dset lf 1 (0, a)) 0 (4, 0), [(4, 50), (4, 8)], g7)) rfl
        dsimp only at h
        obtain ⟨g10, hk, h⟩ := zcallV zy_275 h rfl rfl zy_63 zk_63
        dsimp only at hk h
        refine ⟨g10, hk, ?_⟩
        have h := zm zy_275 h 5 (q := (76, dset (dset lf 1 (0, a)) 0 (4, 0), [(0, g10 8 1), (4, 0)], g10)) rfl
        dsimp only at h
        obtain ⟨g11, r12, hk, h⟩ := zcallI zy_275 h rfl rfl zy_64 zk_64
        dsimp only at hk h
        refine ⟨g11, r12, hk, ?_⟩
        exact zret zy_275 h rfl rfl
      · refine Or.inr ⟨hc9, ?_⟩
        have h := zm zy_275 h 2 (q := (44, dset (dset lf 1 (0, a)) 0 (4, 0), [(0, 9), (4, 0)], g7)) rfl
        dsimp only at h
        obtain ⟨g13, r14, hk, h⟩ := zcallI zy_275 h rfl rfl zy_29 zk_29
        dsimp only at hk h
        refine ⟨g13, r14, hk, ?_⟩
        exact zret zy_275 h rfl rfl
    · refine Or.inr ⟨hc6, ?_⟩
      have h := zm zy_275 h 2 (q := (21, dset (dset lf 1 (0, a)) 0 (4, 0), [(0, 1), (4, 0)], g1)) rfl
      dsimp only at h
      obtain ⟨g15, r16, hk, h⟩ := zcallI zy_275 h rfl rfl zy_29 zk_29
      dsimp only at hk h
      refine ⟨g15, r16, hk, ?_⟩
      exact zret zy_275 h rfl rfl
theorem t_isStep {sv : Nat → Int32} {L n : Nat} {lf : dlf} {g : cg} {o : cg × Option cv} {a : Int} (h : zr sv L n 69 0 lf [] g o) (h0 : lf 0 = (0, a)) : (a = 14 ∧ (o = (g, some (0, 1)))) ∨ (a ≠ 14 ∧ ((a = 18 ∧ (o = (g, some (0, 1)))) ∨ (a ≠ 18 ∧ ((a = 16 ∧ (o = (g, some (0, 1)))) ∨ (a ≠ 16 ∧ ((a = 17 ∧ (o = (g, some (0, 1)))) ∨ (a ≠ 17 ∧ ((a = 19 ∧ (o = (g, some (0, 1)))) ∨ (a ≠ 19 ∧ ((a = 22 ∧ (o = (g, some (0, 1)))) ∨ (a ≠ 22 ∧ ((a ≠ 24 ∧ (o = (g, some (0, 0)))) ∨ (a = 24 ∧ (o = (g, some (0, 1)))))))))))))))) := by
  rw [zov h0] at h
  have h := zm zy_69 h 3 (q := (cond (crel .eq a 14) 42 6, dset lf 0 (0, a), [], g)) rfl
  dsimp only at h
  rcases zif_eq h with ⟨hc1, h⟩ | ⟨hc1, h⟩
  · refine Or.inl ⟨hc1, ?_⟩
    have h := zm zy_69 h 2 (q := (47, dset lf 0 (0, a), [(0, 1)], g)) rfl
    dsimp only at h
    exact zret zy_69 h rfl rfl
  · refine Or.inr ⟨hc1, ?_⟩
    have h := zm zy_69 h 3 (q := (cond (crel .eq a 18) 42 12, dset lf 0 (0, a), [], g)) rfl
    dsimp only at h
    rcases zif_eq h with ⟨hc2, h⟩ | ⟨hc2, h⟩
    · refine Or.inl ⟨hc2, ?_⟩
      have h := zm zy_69 h 2 (q := (47, dset lf 0 (0, a), [(0, 1)], g)) rfl
      dsimp only at h
      exact zret zy_69 h rfl rfl
    · refine Or.inr ⟨hc2, ?_⟩
      have h := zm zy_69 h 3 (q := (cond (crel .eq a 16) 42 18, dset lf 0 (0, a), [], g)) rfl
      dsimp only at h
      rcases zif_eq h with ⟨hc3, h⟩ | ⟨hc3, h⟩
      · refine Or.inl ⟨hc3, ?_⟩
        have h := zm zy_69 h 2 (q := (47, dset lf 0 (0, a), [(0, 1)], g)) rfl
        dsimp only at h
        exact zret zy_69 h rfl rfl
      · refine Or.inr ⟨hc3, ?_⟩
        have h := zm zy_69 h 3 (q := (cond (crel .eq a 17) 42 24, dset lf 0 (0, a), [], g)) rfl
        dsimp only at h
        rcases zif_eq h with ⟨hc4, h⟩ | ⟨hc4, h⟩
        · refine Or.inl ⟨hc4, ?_⟩
          have h := zm zy_69 h 2 (q := (47, dset lf 0 (0, a), [(0, 1)], g)) rfl
          dsimp only at h
          exact zret zy_69 h rfl rfl
        · refine Or.inr ⟨hc4, ?_⟩
          have h := zm zy_69 h 3 (q := (cond (crel .eq a 19) 42 30, dset lf 0 (0, a), [], g)) rfl
          dsimp only at h
          rcases zif_eq h with ⟨hc5, h⟩ | ⟨hc5, h⟩
          · refine Or.inl ⟨hc5, ?_⟩
            have h := zm zy_69 h 2 (q := (47, dset lf 0 (0, a), [(0, 1)], g)) rfl
            dsimp only at h
            exact zret zy_69 h rfl rfl
          · refine Or.inr ⟨hc5, ?_⟩
            have h := zm zy_69 h 3 (q := (cond (crel .eq a 22) 42 36, dset lf 0 (0, a), [], g)) rfl
            dsimp only at h
            rcases zif_eq h with ⟨hc6, h⟩ | ⟨hc6, h⟩
            · refine Or.inl ⟨hc6, ?_⟩
              have h := zm zy_69 h 2 (q := (47, dset lf 0 (0, a), [(0, 1)], g)) rfl
              dsimp only at h
              exact zret zy_69 h rfl rfl
            · refine Or.inr ⟨hc6, ?_⟩
              have h := zm zy_69 h 3 (q := (cond (crel .ne a 24) 46 42, dset lf 0 (0, a), [], g)) rfl
              dsimp only at h
              rcases zif_ne h with ⟨hc7, h⟩ | ⟨hc7, h⟩
              · refine Or.inl ⟨hc7, ?_⟩
                have h := zm zy_69 h 1 (q := (47, dset lf 0 (0, a), [(0, 0)], g)) rfl
                dsimp only at h
                exact zret zy_69 h rfl rfl
              · refine Or.inr ⟨hc7, ?_⟩
                have h := zm zy_69 h 2 (q := (47, dset lf 0 (0, a), [(0, 1)], g)) rfl
                dsimp only at h
                exact zret zy_69 h rfl rfl
theorem t_cmp {sv : Nat → Int32} {L n : Nat} {lf : dlf} {g : cg} {o : cg × Option cv} (h : zr sv L n 74 0 lf [] g o) (h0 : lf 0 = (4, 88)) : (g 88 4 ≠ 5 ∧ (∃ g2 r3, zr sv L n 39 0 (darg 0 [(4, 88), (0, 2)]) [] g (g2, some (0, r3)) ∧ (o = (g2, some (0, (-1)))))) ∨ (g 88 4 = 5 ∧ ((g 88 9 ≠ 59 ∧ (∃ g5, zr sv L n 37 0 (darg 0 [(4, 88)]) [] g (g5, none) ∧ (o = (g5, some (0, g 88 9))))) ∨ (g 88 9 = 59 ∧ (∃ g6 r7, zr sv L n 39 0 (darg 0 [(4, 88), (0, 2)]) [] g (g6, some (0, r7)) ∧ (o = (g6, some (0, (-1)))))))) := by
  rw [zov h0] at h
  have h := zm zy_74 h 4 (q := (cond (crel .ne (g 88 4) 5) 17 8, dset lf 0 (4, 88), [], g)) rfl
  dsimp only at h
  rcases zif_ne h with ⟨hc1, h⟩ | ⟨hc1, h⟩
  · refine Or.inl ⟨hc1, ?_⟩
    have h := zm zy_74 h 2 (q := (19, dset lf 0 (4, 88), [(0, 2), (4, 88)], g)) rfl
    dsimp only at h
    obtain ⟨g2, r3, hk, h⟩ := zcallI zy_74 h rfl rfl zy_39 zk_39
    dsimp only at hk h
    refine ⟨g2, r3, hk, ?_⟩
    have h := zm zy_74 h 2 (q := (24, dset lf 0 (4, 88), [(0, (-1))], g2)) rfl
    dsimp only at h
    exact zret zy_74 h rfl rfl
  · refine Or.inr ⟨hc1, ?_⟩
    have h := zm zy_74 h 4 (q := (cond (crel .ne (g 88 9) 59) 25 17, dset lf 0 (4, 88), [], g)) rfl
    dsimp only at h
    rcases zif_ne h with ⟨hc4, h⟩ | ⟨hc4, h⟩
    · refine Or.inl ⟨hc4, ?_⟩
      have h := zm zy_74 h 4 (q := (31, dset (dset lf 0 (4, 88)) 1 (0, g 88 9), [(4, 88)], g)) rfl
      dsimp only at h
      obtain ⟨g5, hk, h⟩ := zcallV zy_74 h rfl rfl zy_37 zk_37
      dsimp only at hk h
      refine ⟨g5, hk, ?_⟩
      have h := zm zy_74 h 1 (q := (35, dset (dset lf 0 (4, 88)) 1 (0, g 88 9), [(0, g 88 9)], g5)) rfl
      dsimp only at h
      exact zret zy_74 h rfl rfl
    · refine Or.inr ⟨hc4, ?_⟩
      have h := zm zy_74 h 2 (q := (19, dset lf 0 (4, 88), [(0, 2), (4, 88)], g)) rfl
      dsimp only at h
      obtain ⟨g6, r7, hk, h⟩ := zcallI zy_74 h rfl rfl zy_39 zk_39
      dsimp only at hk h
      refine ⟨g6, r7, hk, ?_⟩
      have h := zm zy_74 h 2 (q := (24, dset lf 0 (4, 88), [(0, (-1))], g6)) rfl
      dsimp only at h
      exact zret zy_74 h rfl rfl
theorem t_mayB {sv : Nat → Int32} {L n : Nat} {lf : dlf} {g : cg} {o : cg × Option cv} {a : Int} (h : zr sv L n 68 0 lf [] g o) (h0 : lf 0 = (4, 90)) (h1 : lf 1 = (0, a)) : ∃ g1 r2, zr sv L n 69 0 (darg 0 [(0, a)]) [] g (g1, some (0, r2)) ∧ ((r2 ≠ 0 ∧ ((30 ≤ g1 50 1 ∧ (∃ g5 r6, zr sv L n 39 0 (darg 0 [(4, 88), (0, 6)]) [] g1 (g5, some (0, r6)) ∧ (o = (g5, some (0, r6))))) ∨ (g1 50 1 < 30 ∧ ((g1 50 2 < 60 ∧ ((a = 19 ∧ ((g1 90 6 < 3 ∧ (o = (g1, some (0, 1)))) ∨ (3 ≤ g1 90 6 ∧ (∃ g10 r11, zr sv L n 39 0 (darg 0 [(4, 88), (0, 7)]) [] g1 (g10, some (0, r11)) ∧ ((r11 = 0 ∧ (o = (g10, some (0, 0)))) ∨ (r11 ≠ 0 ∧ (o = (g10, some (0, 1))))))))) ∨ (a ≠ 19 ∧ ((a ≠ 22 ∧ (o = (g1, some (0, 1)))) ∨ (a = 22 ∧ ((g1 90 6 < 3 ∧ (o = (g1, some (0, 1)))) ∨ (3 ≤ g1 90 6 ∧ (∃ g15 r16, zr sv L n 39 0 (darg 0 [(4, 88), (0, 7)]) [] g1 (g15, some (0, r16)) ∧ ((r16 = 0 ∧ (o = (g15, some (0, 0)))) ∨ (r16 ≠ 0 ∧ (o = (g15, some (0, 1))))))))))))) ∨ (60 ≤ g1 50 2 ∧ (∃ g18 r19, zr sv L n 39 0 (darg 0 [(4, 88), (0, 6)]) [] g1 (g18, some (0, r19)) ∧ (o = (g18, some (0, r19))))))))) ∨ (r2 = 0 ∧ (∃ g20 r21, zr sv L n 39 0 (darg 0 [(4, 88), (0, 2)]) [] g1 (g20, some (0, r21)) ∧ (o = (g20, some (0, r21)))))) := by
  rw [zov h0, zov h1] at h
  have h := zm zy_68 h 1 (q := (1, dset (dset lf 1 (0, a)) 0 (4, 90), [(0, a)], g)) rfl
  dsimp only at h
  obtain ⟨g1, r2, hk, h⟩ := zcallI zy_68 h rfl rfl zy_69 zk_69
  dsimp only at hk h
  refine ⟨g1, r2, hk, ?_⟩
  have h := zm zy_68 h 1 (q := (cond (crel .ne r2 0) 16 7, dset (dset lf 1 (0, a)) 0 (4, 90), [], g1)) rfl
  dsimp only at h
  rcases zif_ne h with ⟨hc3, h⟩ | ⟨hc3, h⟩
  · refine Or.inl ⟨hc3, ?_⟩
    have h := zm zy_68 h 5 (q := (cond (crel .ge (g1 50 1) 30) 40 28, dset (dset lf 1 (0, a)) 0 (4, 90), [], g1)) rfl
    dsimp only at h
    rcases zif_ge h with ⟨hc4, h⟩ | ⟨hc4, h⟩
    · refine Or.inl ⟨hc4, ?_⟩
      have h := zm zy_68 h 3 (q := (46, dset (dset lf 1 (0, a)) 0 (4, 90), [(0, 6), (4, 88)], g1)) rfl
      dsimp only at h
      obtain ⟨g5, r6, hk, h⟩ := zcallI zy_68 h rfl rfl zy_39 zk_39
      dsimp only at hk h
      refine ⟨g5, r6, hk, ?_⟩
      exact zret zy_68 h rfl rfl
    · refine Or.inr ⟨hc4, ?_⟩
      have h := zm zy_68 h 5 (q := (cond (crel .lt (g1 50 2) 60) 50 40, dset (dset lf 1 (0, a)) 0 (4, 90), [], g1)) rfl
      dsimp only at h
      rcases zif_lt h with ⟨hc7, h⟩ | ⟨hc7, h⟩
      · refine Or.inl ⟨hc7, ?_⟩
        have h := zm zy_68 h 3 (q := (cond (crel .eq a 19) 62 56, dset (dset lf 1 (0, a)) 0 (4, 90), [], g1)) rfl
        dsimp only at h
        rcases zif_eq h with ⟨hc8, h⟩ | ⟨hc8, h⟩
        · refine Or.inl ⟨hc8, ?_⟩
          have h := zm zy_68 h 9 (q := (cond (crel .lt (g1 90 6) 3) 92 80, dset (dset (dset lf 1 (0, a)) 0 (4, 90)) 2 (0, 1), [], g1)) rfl
          dsimp only at h
          rcases zif_lt h with ⟨hc9, h⟩ | ⟨hc9, h⟩
          · refine Or.inl ⟨hc9, ?_⟩
            have h := zm zy_68 h 2 (q := (97, dset (dset (dset lf 1 (0, a)) 0 (4, 90)) 2 (0, 1), [(0, 1)], g1)) rfl
            dsimp only at h
            exact zret zy_68 h rfl rfl
          · refine Or.inr ⟨hc9, ?_⟩
            have h := zm zy_68 h 3 (q := (86, dset (dset (dset lf 1 (0, a)) 0 (4, 90)) 2 (0, 1), [(0, 7), (4, 88)], g1)) rfl
            dsimp only at h
            obtain ⟨g10, r11, hk, h⟩ := zcallI zy_68 h rfl rfl zy_39 zk_39
            dsimp only at hk h
            refine ⟨g10, r11, hk, ?_⟩
            have h := zm zy_68 h 1 (q := (cond (crel .eq r11 0) 96 92, dset (dset (dset lf 1 (0, a)) 0 (4, 90)) 2 (0, 1), [], g10)) rfl
            dsimp only at h
            rcases zif_eq h with ⟨hc12, h⟩ | ⟨hc12, h⟩
            · refine Or.inl ⟨hc12, ?_⟩
              have h := zm zy_68 h 1 (q := (97, dset (dset (dset lf 1 (0, a)) 0 (4, 90)) 2 (0, 1), [(0, 0)], g10)) rfl
              dsimp only at h
              exact zret zy_68 h rfl rfl
            · refine Or.inr ⟨hc12, ?_⟩
              have h := zm zy_68 h 2 (q := (97, dset (dset (dset lf 1 (0, a)) 0 (4, 90)) 2 (0, 1), [(0, 1)], g10)) rfl
              dsimp only at h
              exact zret zy_68 h rfl rfl
        · refine Or.inr ⟨hc8, ?_⟩
          have h := zm zy_68 h 3 (q := (cond (crel .ne a 22) 66 62, dset (dset lf 1 (0, a)) 0 (4, 90), [], g1)) rfl
          dsimp only at h
          rcases zif_ne h with ⟨hc13, h⟩ | ⟨hc13, h⟩
          · refine Or.inl ⟨hc13, ?_⟩
            have h := zm zy_68 h 6 (q := (97, dset (dset (dset lf 1 (0, a)) 0 (4, 90)) 2 (0, 0), [(0, 1)], g1)) rfl
            dsimp only at h
            exact zret zy_68 h rfl rfl
          · refine Or.inr ⟨hc13, ?_⟩
            have h := zm zy_68 h 9 (q := (cond (crel .lt (g1 90 6) 3) 92 80, dset (dset (dset lf 1 (0, a)) 0 (4, 90)) 2 (0, 1), [], g1)) rfl
            dsimp only at h
            rcases zif_lt h with ⟨hc14, h⟩ | ⟨hc14, h⟩
            · refine Or.inl ⟨hc14, ?_⟩
              have h := zm zy_68 h 2 (q := (97, dset (dset (dset lf 1 (0, a)) 0 (4, 90)) 2 (0, 1), [(0, 1)], g1)) rfl
              dsimp only at h
              exact zret zy_68 h rfl rfl
            · refine Or.inr ⟨hc14, ?_⟩
              have h := zm zy_68 h 3 (q := (86, dset (dset (dset lf 1 (0, a)) 0 (4, 90)) 2 (0, 1), [(0, 7), (4, 88)], g1)) rfl
              dsimp only at h
              obtain ⟨g15, r16, hk, h⟩ := zcallI zy_68 h rfl rfl zy_39 zk_39
              dsimp only at hk h
              refine ⟨g15, r16, hk, ?_⟩
              have h := zm zy_68 h 1 (q := (cond (crel .eq r16 0) 96 92, dset (dset (dset lf 1 (0, a)) 0 (4, 90)) 2 (0, 1), [], g15)) rfl
              dsimp only at h
              rcases zif_eq h with ⟨hc17, h⟩ | ⟨hc17, h⟩
              · refine Or.inl ⟨hc17, ?_⟩
                have h := zm zy_68 h 1 (q := (97, dset (dset (dset lf 1 (0, a)) 0 (4, 90)) 2 (0, 1), [(0, 0)], g15)) rfl
                dsimp only at h
                exact zret zy_68 h rfl rfl
              · refine Or.inr ⟨hc17, ?_⟩
                have h := zm zy_68 h 2 (q := (97, dset (dset (dset lf 1 (0, a)) 0 (4, 90)) 2 (0, 1), [(0, 1)], g15)) rfl
                dsimp only at h
                exact zret zy_68 h rfl rfl
      · refine Or.inr ⟨hc7, ?_⟩
        have h := zm zy_68 h 3 (q := (46, dset (dset lf 1 (0, a)) 0 (4, 90), [(0, 6), (4, 88)], g1)) rfl
        dsimp only at h
        obtain ⟨g18, r19, hk, h⟩ := zcallI zy_68 h rfl rfl zy_39 zk_39
        dsimp only at hk h
        refine ⟨g18, r19, hk, ?_⟩
        exact zret zy_68 h rfl rfl
  · refine Or.inr ⟨hc3, ?_⟩
    have h := zm zy_68 h 3 (q := (12, dset (dset lf 1 (0, a)) 0 (4, 90), [(0, 2), (4, 88)], g1)) rfl
    dsimp only at h
    obtain ⟨g20, r21, hk, h⟩ := zcallI zy_68 h rfl rfl zy_39 zk_39
    dsimp only at hk h
    refine ⟨g20, r21, hk, ?_⟩
    exact zret zy_68 h rfl rfl
theorem t_newRow {sv : Nat → Int32} {L n : Nat} {lf : dlf} {g : cg} {o : cg × Option cv} {a : Int} (h : zr sv L n 70 0 lf [] g o) (h0 : lf 0 = (4, 90)) (h1 : lf 1 = (0, a)) : (a = 19 ∧ (o = (cup (cup (cup (cup (cup g 58 ((g 50 2).toNat) (g 90 6)) 91 ((g 90 6).toNat) (g 50 2)) 90 6 (w32 ((g 90 6) + 1))) 50 2 (w32 ((g 50 2) + 1))) 50 1 (w32 ((g 50 1) + 1)), some (0, g 50 2)))) ∨ (a ≠ 19 ∧ ((a ≠ 22 ∧ (o = (cup (cup g 50 2 (w32 ((g 50 2) + 1))) 50 1 (w32 ((g 50 1) + 1)), some (0, g 50 2)))) ∨ (a = 22 ∧ (o = (cup (cup (cup (cup (cup g 58 ((g 50 2).toNat) (g 90 6)) 91 ((g 90 6).toNat) (g 50 2)) 90 6 (w32 ((g 90 6) + 1))) 50 2 (w32 ((g 50 2) + 1))) 50 1 (w32 ((g 50 1) + 1)), some (0, g 50 2)))))) := by
  rw [zov h0, zov h1] at h
  have h := zm zy_70 h 7 (q := (cond (crel .eq a 19) 20 14, dset (dset (dset lf 1 (0, a)) 0 (4, 90)) 2 (0, g 50 2), [], g)) rfl
  dsimp only at h
  rcases zif_eq h with ⟨hc1, h⟩ | ⟨hc1, h⟩
  · refine Or.inl ⟨hc1, ?_⟩
    have h := zm zy_70 h 34 (q := (80, dset (dset (dset lf 1 (0, a)) 0 (4, 90)) 2 (0, g 50 2), [(0, g 50 2)], cup (cup (cup (cup (cup g 58 ((g 50 2).toNat) (g 90 6)) 91 ((g 90 6).toNat) (g 50 2)) 90 6 (w32 ((g 90 6) + 1))) 50 2 (w32 ((g 50 2) + 1))) 50 1 (w32 ((g 50 1) + 1)))) rfl
    dsimp only at h
    exact zret zy_70 h rfl rfl
  · refine Or.inr ⟨hc1, ?_⟩
    have h := zm zy_70 h 3 (q := (cond (crel .ne a 22) 53 20, dset (dset (dset lf 1 (0, a)) 0 (4, 90)) 2 (0, g 50 2), [], g)) rfl
    dsimp only at h
    rcases zif_ne h with ⟨hc2, h⟩ | ⟨hc2, h⟩
    · refine Or.inl ⟨hc2, ?_⟩
      have h := zm zy_70 h 15 (q := (80, dset (dset (dset lf 1 (0, a)) 0 (4, 90)) 2 (0, g 50 2), [(0, g 50 2)], cup (cup g 50 2 (w32 ((g 50 2) + 1))) 50 1 (w32 ((g 50 1) + 1)))) rfl
      dsimp only at h
      exact zret zy_70 h rfl rfl
    · refine Or.inr ⟨hc2, ?_⟩
      have h := zm zy_70 h 34 (q := (80, dset (dset (dset lf 1 (0, a)) 0 (4, 90)) 2 (0, g 50 2), [(0, g 50 2)], cup (cup (cup (cup (cup g 58 ((g 50 2).toNat) (g 90 6)) 91 ((g 90 6).toNat) (g 50 2)) 90 6 (w32 ((g 90 6) + 1))) 50 2 (w32 ((g 50 2) + 1))) 50 1 (w32 ((g 50 1) + 1)))) rfl
      dsimp only at h
      exact zret zy_70 h rfl rfl
theorem t_end {sv : Nat → Int32} {L n : Nat} {lf : dlf} {g : cg} {o : cg × Option cv} (h : zr sv L n 66 0 lf [] g o) (h0 : lf 0 = (4, 90)) : (g 90 6 ≤ 0 ∧ (∃ g2 r3, zr sv L n 39 0 (darg 0 [(4, 88), (0, 2)]) [] g (g2, some (0, r3)) ∧ (o = (g2, some (0, r3))))) ∨ (0 < g 90 6 ∧ ((g 50 2 < 60 ∧ (∃ g5, zr sv L n 37 0 (darg 0 [(4, 88)]) [] g (g5, none) ∧ (0 ≤ w32 ((g5 90 6) - 1) → w32 ((g5 90 6) - 1) < 3 → (0 ≤ g5 91 ((w32 ((g5 90 6) - 1)).toNat) → g5 91 ((w32 ((g5 90 6) - 1)).toNat) < 60 → ((g5 51 ((g5 91 ((w32 ((g5 90 6) - 1)).toNat)).toNat) ≠ 7 ∧ (∃ g11 r12, zr sv L n 42 0 (darg 0 [(4, 88)]) [] (cup (cup (cup (cup (cup (cup g5 90 6 (w32 ((g5 90 6) - 1))) 51 ((g5 50 2).toNat) 9) 57 ((g5 50 2).toNat) (g5 91 ((w32 ((g5 90 6) - 1)).toNat))) 57 ((g5 91 ((w32 ((g5 90 6) - 1)).toNat)).toNat) (g5 50 2)) 58 ((g5 50 2).toNat) (w32 ((g5 90 6) - 1))) 50 2 (w32 ((g5 50 2) + 1))) (g11, some (0, r12)) ∧ (o = (g11, some (0, r12))))) ∨ (g5 51 ((g5 91 ((w32 ((g5 90 6) - 1)).toNat)).toNat) = 7 ∧ (∃ g13 r14, zr sv L n 42 0 (darg 0 [(4, 88)]) [] (cup (cup (cup (cup (cup (cup g5 90 6 (w32 ((g5 90 6) - 1))) 51 ((g5 50 2).toNat) 10) 57 ((g5 50 2).toNat) (g5 91 ((w32 ((g5 90 6) - 1)).toNat))) 57 ((g5 91 ((w32 ((g5 90 6) - 1)).toNat)).toNat) (g5 50 2)) 58 ((g5 50 2).toNat) (w32 ((g5 90 6) - 1))) 50 2 (w32 ((g5 50 2) + 1))) (g13, some (0, r14)) ∧ (o = (g13, some (0, r14)))))))))) ∨ (60 ≤ g 50 2 ∧ (∃ g15 r16, zr sv L n 39 0 (darg 0 [(4, 88), (0, 2)]) [] g (g15, some (0, r16)) ∧ (o = (g15, some (0, r16))))))) := by
  rw [zov h0] at h
  have h := zm zy_66 h 3 (q := (cond (crel .le (g 90 6) 0) 19 7, dset lf 0 (4, 90), [], g)) rfl
  dsimp only at h
  rcases zif_le h with ⟨hc1, h⟩ | ⟨hc1, h⟩
  · refine Or.inl ⟨hc1, ?_⟩
    have h := zm zy_66 h 3 (q := (24, dset lf 0 (4, 90), [(0, 2), (4, 88)], g)) rfl
    dsimp only at h
    obtain ⟨g2, r3, hk, h⟩ := zcallI zy_66 h rfl rfl zy_39 zk_39
    dsimp only at hk h
    refine ⟨g2, r3, hk, ?_⟩
    exact zret zy_66 h rfl rfl
  · refine Or.inr ⟨hc1, ?_⟩
    have h := zm zy_66 h 5 (q := (cond (crel .lt (g 50 2) 60) 28 19, dset lf 0 (4, 90), [], g)) rfl
    dsimp only at h
    rcases zif_lt h with ⟨hc4, h⟩ | ⟨hc4, h⟩
    · refine Or.inl ⟨hc4, ?_⟩
      have h := zm zy_66 h 2 (q := (32, dset lf 0 (4, 90), [(4, 88)], g)) rfl
      dsimp only at h
      obtain ⟨g5, hk, h⟩ := zcallV zy_66 h rfl rfl zy_37 zk_37
      dsimp only at hk h
      refine ⟨g5, hk, ?_⟩
      intro ha6 hb7
      have h := zm zy_66 h 14 (q := (61, dset (dset lf 0 (4, 90)) 1 (0, g5 50 2), [(0, w32 ((g5 90 6) - 1)), (4, 91)], cup g5 90 6 (w32 ((g5 90 6) - 1)))) rfl
      dsimp only at h
      have h := zald zy_66 h rfl rfl (dvb_91 ha6 hb7)
      have h : zr sv L n 66 62 (dset (dset lf 0 (4, 90)) 1 (0, g5 50 2)) [(0, g5 91 ((w32 ((g5 90 6) - 1)).toNat))] (cup g5 90 6 (w32 ((g5 90 6) - 1))) o := by first | exact h | (rw [cup_at] at h; exact h) | ((repeat rw [cup_ne (by omega)] at h); exact h)
      intro ha8 hb9
      have h := zm zy_66 h 9 (q := (79, dset (dset (dset lf 0 (4, 90)) 1 (0, g5 50 2)) 2 (0, g5 91 ((w32 ((g5 90 6) - 1)).toNat)), [(0, g5 91 ((w32 ((g5 90 6) - 1)).toNat)), (4, 51), (0, g5 50 2), (4, 51)], cup g5 90 6 (w32 ((g5 90 6) - 1)))) rfl
      dsimp only at h
      have h := zald zy_66 h rfl rfl (dvb_51 ha8 hb9)
      have h : zr sv L n 66 80 (dset (dset (dset lf 0 (4, 90)) 1 (0, g5 50 2)) 2 (0, g5 91 ((w32 ((g5 90 6) - 1)).toNat))) [(0, g5 51 ((g5 91 ((w32 ((g5 90 6) - 1)).toNat)).toNat)), (0, g5 50 2), (4, 51)] (cup g5 90 6 (w32 ((g5 90 6) - 1))) o := by first | exact h | (rw [cup_at] at h; exact h) | ((repeat rw [cup_ne (by omega)] at h); exact h)
      have h := zm zy_66 h 2 (q := (cond (crel .ne (g5 51 ((g5 91 ((w32 ((g5 90 6) - 1)).toNat)).toNat)) 7) 90 85, dset (dset (dset lf 0 (4, 90)) 1 (0, g5 50 2)) 2 (0, g5 91 ((w32 ((g5 90 6) - 1)).toNat)), [(0, g5 50 2), (4, 51)], cup g5 90 6 (w32 ((g5 90 6) - 1)))) rfl
      dsimp only at h
      rcases zif_ne h with ⟨hc10, h⟩ | ⟨hc10, h⟩
      · refine Or.inl ⟨hc10, ?_⟩
        have h := zm zy_66 h 30 (q := (143, dset (dset (dset lf 0 (4, 90)) 1 (0, g5 50 2)) 2 (0, g5 91 ((w32 ((g5 90 6) - 1)).toNat)), [(4, 88)], cup (cup (cup (cup (cup (cup g5 90 6 (w32 ((g5 90 6) - 1))) 51 ((g5 50 2).toNat) 9) 57 ((g5 50 2).toNat) (g5 91 ((w32 ((g5 90 6) - 1)).toNat))) 57 ((g5 91 ((w32 ((g5 90 6) - 1)).toNat)).toNat) (g5 50 2)) 58 ((g5 50 2).toNat) (w32 ((g5 90 6) - 1))) 50 2 (w32 ((g5 50 2) + 1)))) rfl
        dsimp only at h
        obtain ⟨g11, r12, hk, h⟩ := zcallI zy_66 h rfl rfl zy_42 zk_42
        dsimp only at hk h
        refine ⟨g11, r12, hk, ?_⟩
        exact zret zy_66 h rfl rfl
      · refine Or.inr ⟨hc10, ?_⟩
        have h := zm zy_66 h 31 (q := (143, dset (dset (dset lf 0 (4, 90)) 1 (0, g5 50 2)) 2 (0, g5 91 ((w32 ((g5 90 6) - 1)).toNat)), [(4, 88)], cup (cup (cup (cup (cup (cup g5 90 6 (w32 ((g5 90 6) - 1))) 51 ((g5 50 2).toNat) 10) 57 ((g5 50 2).toNat) (g5 91 ((w32 ((g5 90 6) - 1)).toNat))) 57 ((g5 91 ((w32 ((g5 90 6) - 1)).toNat)).toNat) (g5 50 2)) 58 ((g5 50 2).toNat) (w32 ((g5 90 6) - 1))) 50 2 (w32 ((g5 50 2) + 1)))) rfl
        dsimp only at h
        obtain ⟨g13, r14, hk, h⟩ := zcallI zy_66 h rfl rfl zy_42 zk_42
        dsimp only at hk h
        refine ⟨g13, r14, hk, ?_⟩
        exact zret zy_66 h rfl rfl
    · refine Or.inr ⟨hc4, ?_⟩
      have h := zm zy_66 h 3 (q := (24, dset lf 0 (4, 90), [(0, 2), (4, 88)], g)) rfl
      dsimp only at h
      obtain ⟨g15, r16, hk, h⟩ := zcallI zy_66 h rfl rfl zy_39 zk_39
      dsimp only at hk h
      refine ⟨g15, r16, hk, ?_⟩
      exact zret zy_66 h rfl rfl
theorem t_wit {sv : Nat → Int32} {L n : Nat} {lf : dlf} {g : cg} {o : cg × Option cv} {a : Int} (h : zr sv L n 75 0 lf [] g o) (h0 : lf 0 = (4, 90)) (h1 : lf 1 = (0, a)) : ∃ g1 r2, zr sv L n 44 0 (darg 0 [(4, 88), (4, 3)]) [] g (g1, some (0, r2)) ∧ (0 ≤ a → a < 60 → ((r2 = (-1) ∧ (o = (cup g1 52 ((a).toNat) r2, some (0, 0)))) ∨ (r2 ≠ (-1) ∧ (o = (cup g1 52 ((a).toNat) r2, some (0, 1)))))) := by
  rw [zov h0, zov h1] at h
  have h := zm zy_75 h 8 (q := (16, dset (dset lf 1 (0, a)) 0 (4, 90), [(4, 3), (4, 88), (0, a), (4, 52)], g)) rfl
  dsimp only at h
  obtain ⟨g1, r2, hk, h⟩ := zcallI zy_75 h rfl rfl zy_44 zk_44
  dsimp only at hk h
  refine ⟨g1, r2, hk, ?_⟩
  intro ha3 hb4
  have h := zm zy_75 h 5 (q := (28, dset (dset lf 1 (0, a)) 0 (4, 90), [(0, a), (4, 52)], cup g1 52 ((a).toNat) r2)) rfl
  dsimp only at h
  have h := zald zy_75 h rfl rfl (dvb_52 ha3 hb4)
  have h : zr sv L n 75 29 (dset (dset lf 1 (0, a)) 0 (4, 90)) [(0, r2)] (cup g1 52 ((a).toNat) r2) o := by first | exact h | (rw [cup_at] at h; exact h) | ((repeat rw [cup_ne (by omega)] at h); exact h)
  have h := zm zy_75 h 2 (q := (cond (crel .eq r2 ((-1))) 37 33, dset (dset lf 1 (0, a)) 0 (4, 90), [], cup g1 52 ((a).toNat) r2)) rfl
  dsimp only at h
  rcases zif_eq h with ⟨hc5, h⟩ | ⟨hc5, h⟩
  · refine Or.inl ⟨hc5, ?_⟩
    have h := zm zy_75 h 1 (q := (38, dset (dset lf 1 (0, a)) 0 (4, 90), [(0, 0)], cup g1 52 ((a).toNat) r2)) rfl
    dsimp only at h
    exact zret zy_75 h rfl rfl
  · refine Or.inr ⟨hc5, ?_⟩
    have h := zm zy_75 h 2 (q := (38, dset (dset lf 1 (0, a)) 0 (4, 90), [(0, 1)], cup g1 52 ((a).toNat) r2)) rfl
    dsimp only at h
    exact zret zy_75 h rfl rfl
theorem t_sub {sv : Nat → Int32} {L n : Nat} {lf : dlf} {g : cg} {o : cg × Option cv} {a : Int} (h : zr sv L n 73 0 lf [] g o) (h0 : lf 0 = (4, 90)) (h1 : lf 1 = (0, a)) : ∃ g1 r2, zr sv L n 44 0 (darg 0 [(4, 88), (4, 3)]) [] g (g1, some (0, r2)) ∧ (0 ≤ a → a < 60 → ((r2 = (-1) ∧ (o = (cup g1 53 ((a).toNat) r2, some (0, 0)))) ∨ (r2 ≠ (-1) ∧ (o = (cup g1 53 ((a).toNat) r2, some (0, 1)))))) := by
  rw [zov h0, zov h1] at h
  have h := zm zy_73 h 8 (q := (16, dset (dset lf 1 (0, a)) 0 (4, 90), [(4, 3), (4, 88), (0, a), (4, 53)], g)) rfl
  dsimp only at h
  obtain ⟨g1, r2, hk, h⟩ := zcallI zy_73 h rfl rfl zy_44 zk_44
  dsimp only at hk h
  refine ⟨g1, r2, hk, ?_⟩
  intro ha3 hb4
  have h := zm zy_73 h 5 (q := (28, dset (dset lf 1 (0, a)) 0 (4, 90), [(0, a), (4, 53)], cup g1 53 ((a).toNat) r2)) rfl
  dsimp only at h
  have h := zald zy_73 h rfl rfl (dvb_53 ha3 hb4)
  have h : zr sv L n 73 29 (dset (dset lf 1 (0, a)) 0 (4, 90)) [(0, r2)] (cup g1 53 ((a).toNat) r2) o := by first | exact h | (rw [cup_at] at h; exact h) | ((repeat rw [cup_ne (by omega)] at h); exact h)
  have h := zm zy_73 h 2 (q := (cond (crel .eq r2 ((-1))) 37 33, dset (dset lf 1 (0, a)) 0 (4, 90), [], cup g1 53 ((a).toNat) r2)) rfl
  dsimp only at h
  rcases zif_eq h with ⟨hc5, h⟩ | ⟨hc5, h⟩
  · refine Or.inl ⟨hc5, ?_⟩
    have h := zm zy_73 h 1 (q := (38, dset (dset lf 1 (0, a)) 0 (4, 90), [(0, 0)], cup g1 53 ((a).toNat) r2)) rfl
    dsimp only at h
    exact zret zy_73 h rfl rfl
  · refine Or.inr ⟨hc5, ?_⟩
    have h := zm zy_73 h 2 (q := (38, dset (dset lf 1 (0, a)) 0 (4, 90), [(0, 1)], cup g1 53 ((a).toNat) r2)) rfl
    dsimp only at h
    exact zret zy_73 h rfl rfl
theorem t_whr {sv : Nat → Int32} {L n : Nat} {lf : dlf} {g : cg} {o : cg × Option cv} {a : Int} (h : zr sv L n 72 0 lf [] g o) (h0 : lf 0 = (4, 90)) (h1 : lf 1 = (0, a)) : ∃ g1 r2, zr sv L n 44 0 (darg 0 [(4, 88), (4, 3)]) [] g (g1, some (0, r2)) ∧ (0 ≤ a → a < 60 → ((r2 = (-1) ∧ (o = (cup g1 53 ((a).toNat) r2, some (0, 0)))) ∨ (r2 ≠ (-1) ∧ (∃ g6 r7, zr sv L n 46 0 (darg 0 [(4, 88), (0, 9)]) [] (cup g1 53 ((a).toNat) r2) (g6, some (0, r7)) ∧ ((r7 ≠ 0 ∧ (∃ g9 r10, zr sv L n 47 0 (darg 0 [(4, 88), (4, 3)]) [] g6 (g9, some (0, r10)) ∧ ((r10 = (-1) ∧ (o = (cup g9 54 ((a).toNat) r10, some (0, 0)))) ∨ (r10 ≠ (-1) ∧ (∃ g12 r13, zr sv L n 46 0 (darg 0 [(4, 88), (0, 10)]) [] (cup g9 54 ((a).toNat) r10) (g12, some (0, r13)) ∧ ((r13 ≠ 0 ∧ (∃ g15 r16, zr sv L n 41 0 (darg 0 [(4, 88), (0, 0), (0, 7)]) [] g12 (g15, some (0, r16)) ∧ ((r16 = (-1) ∧ (o = (cup g15 55 ((a).toNat) r16, some (0, 0)))) ∨ (r16 ≠ (-1) ∧ (o = (cup g15 55 ((a).toNat) r16, some (0, 1))))))) ∨ (r13 = 0 ∧ (o = (g12, some (0, 0)))))))))) ∨ (r7 = 0 ∧ (o = (g6, some (0, 0))))))))) := by
  rw [zov h0, zov h1] at h
  have h := zm zy_72 h 8 (q := (16, dset (dset lf 1 (0, a)) 0 (4, 90), [(4, 3), (4, 88), (0, a), (4, 53)], g)) rfl
  dsimp only at h
  obtain ⟨g1, r2, hk, h⟩ := zcallI zy_72 h rfl rfl zy_44 zk_44
  dsimp only at hk h
  refine ⟨g1, r2, hk, ?_⟩
  intro ha3 hb4
  have h := zm zy_72 h 5 (q := (28, dset (dset lf 1 (0, a)) 0 (4, 90), [(0, a), (4, 53)], cup g1 53 ((a).toNat) r2)) rfl
  dsimp only at h
  have h := zald zy_72 h rfl rfl (dvb_53 ha3 hb4)
  have h : zr sv L n 72 29 (dset (dset lf 1 (0, a)) 0 (4, 90)) [(0, r2)] (cup g1 53 ((a).toNat) r2) o := by first | exact h | (rw [cup_at] at h; exact h) | ((repeat rw [cup_ne (by omega)] at h); exact h)
  have h := zm zy_72 h 2 (q := (cond (crel .eq r2 ((-1))) 45 33, dset (dset lf 1 (0, a)) 0 (4, 90), [], cup g1 53 ((a).toNat) r2)) rfl
  dsimp only at h
  rcases zif_eq h with ⟨hc5, h⟩ | ⟨hc5, h⟩
  · refine Or.inl ⟨hc5, ?_⟩
    have h := zm zy_72 h 1 (q := (46, dset (dset lf 1 (0, a)) 0 (4, 90), [(0, 0)], cup g1 53 ((a).toNat) r2)) rfl
    dsimp only at h
    exact zret zy_72 h rfl rfl
  · refine Or.inr ⟨hc5, ?_⟩
    have h := zm zy_72 h 3 (q := (39, dset (dset lf 1 (0, a)) 0 (4, 90), [(0, 9), (4, 88)], cup g1 53 ((a).toNat) r2)) rfl
    dsimp only at h
    obtain ⟨g6, r7, hk, h⟩ := zcallI zy_72 h rfl rfl zy_46 zk_46
    dsimp only at hk h
    refine ⟨g6, r7, hk, ?_⟩
    have h := zm zy_72 h 1 (q := (cond (crel .ne r7 0) 47 45, dset (dset lf 1 (0, a)) 0 (4, 90), [], g6)) rfl
    dsimp only at h
    rcases zif_ne h with ⟨hc8, h⟩ | ⟨hc8, h⟩
    · refine Or.inl ⟨hc8, ?_⟩
      have h := zm zy_72 h 8 (q := (63, dset (dset lf 1 (0, a)) 0 (4, 90), [(4, 3), (4, 88), (0, a), (4, 54)], g6)) rfl
      dsimp only at h
      obtain ⟨g9, r10, hk, h⟩ := zcallI zy_72 h rfl rfl zy_47 zk_47
      dsimp only at hk h
      refine ⟨g9, r10, hk, ?_⟩
      have h := zm zy_72 h 5 (q := (75, dset (dset lf 1 (0, a)) 0 (4, 90), [(0, a), (4, 54)], cup g9 54 ((a).toNat) r10)) rfl
      dsimp only at h
      have h := zald zy_72 h rfl rfl (dvb_54 ha3 hb4)
      have h : zr sv L n 72 76 (dset (dset lf 1 (0, a)) 0 (4, 90)) [(0, r10)] (cup g9 54 ((a).toNat) r10) o := by first | exact h | (rw [cup_at] at h; exact h) | ((repeat rw [cup_ne (by omega)] at h); exact h)
      have h := zm zy_72 h 2 (q := (cond (crel .eq r10 ((-1))) 92 80, dset (dset lf 1 (0, a)) 0 (4, 90), [], cup g9 54 ((a).toNat) r10)) rfl
      dsimp only at h
      rcases zif_eq h with ⟨hc11, h⟩ | ⟨hc11, h⟩
      · refine Or.inl ⟨hc11, ?_⟩
        have h := zm zy_72 h 1 (q := (93, dset (dset lf 1 (0, a)) 0 (4, 90), [(0, 0)], cup g9 54 ((a).toNat) r10)) rfl
        dsimp only at h
        exact zret zy_72 h rfl rfl
      · refine Or.inr ⟨hc11, ?_⟩
        have h := zm zy_72 h 3 (q := (86, dset (dset lf 1 (0, a)) 0 (4, 90), [(0, 10), (4, 88)], cup g9 54 ((a).toNat) r10)) rfl
        dsimp only at h
        obtain ⟨g12, r13, hk, h⟩ := zcallI zy_72 h rfl rfl zy_46 zk_46
        dsimp only at hk h
        refine ⟨g12, r13, hk, ?_⟩
        have h := zm zy_72 h 1 (q := (cond (crel .ne r13 0) 94 92, dset (dset lf 1 (0, a)) 0 (4, 90), [], g12)) rfl
        dsimp only at h
        rcases zif_ne h with ⟨hc14, h⟩ | ⟨hc14, h⟩
        · refine Or.inl ⟨hc14, ?_⟩
          have h := zm zy_72 h 8 (q := (109, dset (dset lf 1 (0, a)) 0 (4, 90), [(0, 7), (0, 0), (4, 88), (0, a), (4, 55)], g12)) rfl
          dsimp only at h
          obtain ⟨g15, r16, hk, h⟩ := zcallI zy_72 h rfl rfl zy_41 zk_41
          dsimp only at hk h
          refine ⟨g15, r16, hk, ?_⟩
          have h := zm zy_72 h 5 (q := (121, dset (dset lf 1 (0, a)) 0 (4, 90), [(0, a), (4, 55)], cup g15 55 ((a).toNat) r16)) rfl
          dsimp only at h
          have h := zald zy_72 h rfl rfl (dvb_55 ha3 hb4)
          have h : zr sv L n 72 122 (dset (dset lf 1 (0, a)) 0 (4, 90)) [(0, r16)] (cup g15 55 ((a).toNat) r16) o := by first | exact h | (rw [cup_at] at h; exact h) | ((repeat rw [cup_ne (by omega)] at h); exact h)
          have h := zm zy_72 h 2 (q := (cond (crel .eq r16 ((-1))) 130 126, dset (dset lf 1 (0, a)) 0 (4, 90), [], cup g15 55 ((a).toNat) r16)) rfl
          dsimp only at h
          rcases zif_eq h with ⟨hc17, h⟩ | ⟨hc17, h⟩
          · refine Or.inl ⟨hc17, ?_⟩
            have h := zm zy_72 h 1 (q := (131, dset (dset lf 1 (0, a)) 0 (4, 90), [(0, 0)], cup g15 55 ((a).toNat) r16)) rfl
            dsimp only at h
            exact zret zy_72 h rfl rfl
          · refine Or.inr ⟨hc17, ?_⟩
            have h := zm zy_72 h 2 (q := (131, dset (dset lf 1 (0, a)) 0 (4, 90), [(0, 1)], cup g15 55 ((a).toNat) r16)) rfl
            dsimp only at h
            exact zret zy_72 h rfl rfl
        · refine Or.inr ⟨hc14, ?_⟩
          have h := zm zy_72 h 1 (q := (93, dset (dset lf 1 (0, a)) 0 (4, 90), [(0, 0)], g12)) rfl
          dsimp only at h
          exact zret zy_72 h rfl rfl
    · refine Or.inr ⟨hc8, ?_⟩
      have h := zm zy_72 h 1 (q := (46, dset (dset lf 1 (0, a)) 0 (4, 90), [(0, 0)], g6)) rfl
      dsimp only at h
      exact zret zy_72 h rfl rfl
theorem t_test {sv : Nat → Int32} {L n : Nat} {lf : dlf} {g : cg} {o : cg × Option cv} {a : Int} (h : zr sv L n 71 0 lf [] g o) (h0 : lf 0 = (4, 90)) (h1 : lf 1 = (0, a)) : (g 88 7 ≠ 21 ∧ ((g 88 7 ≠ 3 ∧ ((g 88 7 = 20 ∧ (∃ g5, zr sv L n 37 0 (darg 0 [(4, 88)]) [] (cup g 51 ((a).toNat) 4) (g5, none) ∧ (0 ≤ a → a < 60 → ((g5 51 ((a).toNat) ≠ 5 ∧ (∃ lf'9, lf'9 0 = (4, 90) ∧ lf'9 1 = (0, a) ∧ zr sv L n 71 123 lf'9 [] g5 o)) ∨ (g5 51 ((a).toNat) = 5 ∧ (∃ g10 r11, zr sv L n 73 0 (darg 0 [(4, 90), (0, a)]) [] g5 (g10, some (0, r11)) ∧ ((r11 ≠ 0 ∧ (∃ lf'13, lf'13 0 = (4, 90) ∧ lf'13 1 = (0, a) ∧ zr sv L n 71 123 lf'13 [] g10 o)) ∨ (r11 = 0 ∧ (o = (g10, some (0, 0))))))))))) ∨ (g 88 7 ≠ 20 ∧ (∃ g14 r15, zr sv L n 39 0 (darg 0 [(4, 88), (0, 2)]) [] (cup g 51 ((a).toNat) 4) (g14, some (0, r15)) ∧ (o = (g14, some (0, r15))))))) ∨ (g 88 7 = 3 ∧ (∃ g17, zr sv L n 37 0 (darg 0 [(4, 88)]) [] (cup g 51 ((a).toNat) 5) (g17, none) ∧ (0 ≤ a → a < 60 → ((g17 51 ((a).toNat) ≠ 5 ∧ (∃ lf'21, lf'21 0 = (4, 90) ∧ lf'21 1 = (0, a) ∧ zr sv L n 71 123 lf'21 [] g17 o)) ∨ (g17 51 ((a).toNat) = 5 ∧ (∃ g22 r23, zr sv L n 73 0 (darg 0 [(4, 90), (0, a)]) [] g17 (g22, some (0, r23)) ∧ ((r23 ≠ 0 ∧ (∃ lf'25, lf'25 0 = (4, 90) ∧ lf'25 1 = (0, a) ∧ zr sv L n 71 123 lf'25 [] g22 o)) ∨ (r23 = 0 ∧ (o = (g22, some (0, 0))))))))))))) ∨ (g 88 7 = 21 ∧ (∃ g26, zr sv L n 37 0 (darg 0 [(4, 88)]) [] (cup g 51 ((a).toNat) 6) (g26, none) ∧ (∃ g27 r28, zr sv L n 72 0 (darg 0 [(4, 90), (0, a)]) [] g26 (g27, some (0, r28)) ∧ (o = (g27, some (0, r28)))))) := by
  rw [zov h0, zov h1] at h
  have h := zm zy_71 h 5 (q := (cond (crel .ne (g 88 7) 21) 36 12, dset (dset lf 1 (0, a)) 0 (4, 90), [], g)) rfl
  dsimp only at h
  rcases zif_ne h with ⟨hc1, h⟩ | ⟨hc1, h⟩
  · refine Or.inl ⟨hc1, ?_⟩
    have h := zm zy_71 h 9 (q := (cond (crel .ne (g 88 7) 3) 59 55, dset (dset lf 1 (0, a)) 0 (4, 90), [(0, a), (4, 51)], g)) rfl
    dsimp only at h
    rcases zif_ne h with ⟨hc2, h⟩ | ⟨hc2, h⟩
    · refine Or.inl ⟨hc2, ?_⟩
      have h := zm zy_71 h 7 (q := (cond (crel .eq (g 88 7) 3) 93 72, dset (dset lf 1 (0, a)) 0 (4, 90), [], cup g 51 ((a).toNat) 4)) rfl
      dsimp only at h
      rcases zif_eq h with ⟨hc3, h⟩ | ⟨hc3, h⟩
      · exact absurd hc3 (by omega)
      · have h := zm zy_71 h 5 (q := (cond (crel .eq (g 88 7) 20) 93 84, dset (dset lf 1 (0, a)) 0 (4, 90), [], cup g 51 ((a).toNat) 4)) rfl
        dsimp only at h
        rcases zif_eq h with ⟨hc4, h⟩ | ⟨hc4, h⟩
        · refine Or.inl ⟨hc4, ?_⟩
          have h := zm zy_71 h 2 (q := (97, dset (dset lf 1 (0, a)) 0 (4, 90), [(4, 88)], cup g 51 ((a).toNat) 4)) rfl
          dsimp only at h
          obtain ⟨g5, hk, h⟩ := zcallV zy_71 h rfl rfl zy_37 zk_37
          dsimp only at hk h
          refine ⟨g5, hk, ?_⟩
          intro ha6 hb7
          have h := zm zy_71 h 4 (q := (108, dset (dset lf 1 (0, a)) 0 (4, 90), [(0, a), (4, 51)], g5)) rfl
          dsimp only at h
          have h := zald zy_71 h rfl rfl (dvb_51 ha6 hb7)
          have h : zr sv L n 71 109 (dset (dset lf 1 (0, a)) 0 (4, 90)) [(0, g5 51 ((a).toNat))] (g5) o := by first | exact h | (rw [cup_at] at h; exact h) | ((repeat rw [cup_ne (by omega)] at h); exact h)
          have h := zm zy_71 h 2 (q := (cond (crel .ne (g5 51 ((a).toNat)) 5) 123 113, dset (dset lf 1 (0, a)) 0 (4, 90), [], g5)) rfl
          dsimp only at h
          rcases zif_ne h with ⟨hc8, h⟩ | ⟨hc8, h⟩
          · refine Or.inl ⟨hc8, ?_⟩
            exact ⟨_, rfl, rfl, h⟩
          · refine Or.inr ⟨hc8, ?_⟩
            have h := zm zy_71 h 2 (q := (115, dset (dset lf 1 (0, a)) 0 (4, 90), [(0, a), (4, 90)], g5)) rfl
            dsimp only at h
            obtain ⟨g10, r11, hk, h⟩ := zcallI zy_71 h rfl rfl zy_73 zk_73
            dsimp only at hk h
            refine ⟨g10, r11, hk, ?_⟩
            have h := zm zy_71 h 1 (q := (cond (crel .ne r11 0) 123 121, dset (dset lf 1 (0, a)) 0 (4, 90), [], g10)) rfl
            dsimp only at h
            rcases zif_ne h with ⟨hc12, h⟩ | ⟨hc12, h⟩
            · refine Or.inl ⟨hc12, ?_⟩
              exact ⟨_, rfl, rfl, h⟩
            · refine Or.inr ⟨hc12, ?_⟩
              have h := zm zy_71 h 1 (q := (122, dset (dset lf 1 (0, a)) 0 (4, 90), [(0, 0)], g10)) rfl
              dsimp only at h
              exact zret zy_71 h rfl rfl
        · refine Or.inr ⟨hc4, ?_⟩
          have h := zm zy_71 h 3 (q := (89, dset (dset lf 1 (0, a)) 0 (4, 90), [(0, 2), (4, 88)], cup g 51 ((a).toNat) 4)) rfl
          dsimp only at h
          obtain ⟨g14, r15, hk, h⟩ := zcallI zy_71 h rfl rfl zy_39 zk_39
          dsimp only at hk h
          refine ⟨g14, r15, hk, ?_⟩
          exact zret zy_71 h rfl rfl
    · refine Or.inr ⟨hc2, ?_⟩
      have h := zm zy_71 h 8 (q := (cond (crel .eq (g 88 7) 3) 93 72, dset (dset lf 1 (0, a)) 0 (4, 90), [], cup g 51 ((a).toNat) 5)) rfl
      dsimp only at h
      rcases zif_eq h with ⟨hc16, h⟩ | ⟨hc16, h⟩
      · have h := zm zy_71 h 2 (q := (97, dset (dset lf 1 (0, a)) 0 (4, 90), [(4, 88)], cup g 51 ((a).toNat) 5)) rfl
        dsimp only at h
        obtain ⟨g17, hk, h⟩ := zcallV zy_71 h rfl rfl zy_37 zk_37
        dsimp only at hk h
        refine ⟨g17, hk, ?_⟩
        intro ha18 hb19
        have h := zm zy_71 h 4 (q := (108, dset (dset lf 1 (0, a)) 0 (4, 90), [(0, a), (4, 51)], g17)) rfl
        dsimp only at h
        have h := zald zy_71 h rfl rfl (dvb_51 ha18 hb19)
        have h : zr sv L n 71 109 (dset (dset lf 1 (0, a)) 0 (4, 90)) [(0, g17 51 ((a).toNat))] (g17) o := by first | exact h | (rw [cup_at] at h; exact h) | ((repeat rw [cup_ne (by omega)] at h); exact h)
        have h := zm zy_71 h 2 (q := (cond (crel .ne (g17 51 ((a).toNat)) 5) 123 113, dset (dset lf 1 (0, a)) 0 (4, 90), [], g17)) rfl
        dsimp only at h
        rcases zif_ne h with ⟨hc20, h⟩ | ⟨hc20, h⟩
        · refine Or.inl ⟨hc20, ?_⟩
          exact ⟨_, rfl, rfl, h⟩
        · refine Or.inr ⟨hc20, ?_⟩
          have h := zm zy_71 h 2 (q := (115, dset (dset lf 1 (0, a)) 0 (4, 90), [(0, a), (4, 90)], g17)) rfl
          dsimp only at h
          obtain ⟨g22, r23, hk, h⟩ := zcallI zy_71 h rfl rfl zy_73 zk_73
          dsimp only at hk h
          refine ⟨g22, r23, hk, ?_⟩
          have h := zm zy_71 h 1 (q := (cond (crel .ne r23 0) 123 121, dset (dset lf 1 (0, a)) 0 (4, 90), [], g22)) rfl
          dsimp only at h
          rcases zif_ne h with ⟨hc24, h⟩ | ⟨hc24, h⟩
          · refine Or.inl ⟨hc24, ?_⟩
            exact ⟨_, rfl, rfl, h⟩
          · refine Or.inr ⟨hc24, ?_⟩
            have h := zm zy_71 h 1 (q := (122, dset (dset lf 1 (0, a)) 0 (4, 90), [(0, 0)], g22)) rfl
            dsimp only at h
            exact zret zy_71 h rfl rfl
      · exact absurd hc16 (by omega)
  · refine Or.inr ⟨hc1, ?_⟩
    have h := zm zy_71 h 8 (q := (27, dset (dset lf 1 (0, a)) 0 (4, 90), [(4, 88)], cup g 51 ((a).toNat) 6)) rfl
    dsimp only at h
    obtain ⟨g26, hk, h⟩ := zcallV zy_71 h rfl rfl zy_37 zk_37
    dsimp only at hk h
    refine ⟨g26, hk, ?_⟩
    have h := zm zy_71 h 2 (q := (32, dset (dset lf 1 (0, a)) 0 (4, 90), [(0, a), (4, 90)], g26)) rfl
    dsimp only at h
    obtain ⟨g27, r28, hk, h⟩ := zcallI zy_71 h rfl rfl zy_72 zk_72
    dsimp only at hk h
    refine ⟨g27, r28, hk, ?_⟩
    exact zret zy_71 h rfl rfl
theorem t_test123 {sv : Nat → Int32} {L n : Nat} {lf : dlf} {g : cg} {o : cg × Option cv} {a : Int} (h : zr sv L n 71 123 lf [] g o) (h0 : lf 0 = (4, 90)) (h1 : lf 1 = (0, a)) : ∃ g1 r2, zr sv L n 74 0 (darg 0 [(4, 88)]) [] g (g1, some (0, r2)) ∧ (0 ≤ a → a < 60 → ((r2 ≠ (-1) ∧ (∃ g6 r7, zr sv L n 41 0 (darg 0 [(4, 88), (0, 0), (0, 9999)]) [] (cup g1 56 ((a).toNat) r2) (g6, some (0, r7)) ∧ ((r7 = (-1) ∧ (o = (cup g6 55 ((a).toNat) r7, some (0, 0)))) ∨ (r7 ≠ (-1) ∧ (o = (cup g6 55 ((a).toNat) r7, some (0, 1))))))) ∨ (r2 = (-1) ∧ (o = (cup g1 56 ((a).toNat) r2, some (0, 0)))))) := by
  rw [zov h0, zov h1] at h
  have h := zm zy_71 h 6 (q := (135, dset (dset lf 1 (0, a)) 0 (4, 90), [(4, 88), (0, a), (4, 56)], g)) rfl
  dsimp only at h
  obtain ⟨g1, r2, hk, h⟩ := zcallI zy_71 h rfl rfl zy_74 zk_74
  dsimp only at hk h
  refine ⟨g1, r2, hk, ?_⟩
  intro ha3 hb4
  have h := zm zy_71 h 5 (q := (147, dset (dset lf 1 (0, a)) 0 (4, 90), [(0, a), (4, 56)], cup g1 56 ((a).toNat) r2)) rfl
  dsimp only at h
  have h := zald zy_71 h rfl rfl (dvb_56 ha3 hb4)
  have h : zr sv L n 71 148 (dset (dset lf 1 (0, a)) 0 (4, 90)) [(0, r2)] (cup g1 56 ((a).toNat) r2) o := by first | exact h | (rw [cup_at] at h; exact h) | ((repeat rw [cup_ne (by omega)] at h); exact h)
  have h := zm zy_71 h 2 (q := (cond (crel .ne r2 ((-1))) 154 152, dset (dset lf 1 (0, a)) 0 (4, 90), [], cup g1 56 ((a).toNat) r2)) rfl
  dsimp only at h
  rcases zif_ne h with ⟨hc5, h⟩ | ⟨hc5, h⟩
  · refine Or.inl ⟨hc5, ?_⟩
    have h := zm zy_71 h 8 (q := (170, dset (dset lf 1 (0, a)) 0 (4, 90), [(0, 9999), (0, 0), (4, 88), (0, a), (4, 55)], cup g1 56 ((a).toNat) r2)) rfl
    dsimp only at h
    obtain ⟨g6, r7, hk, h⟩ := zcallI zy_71 h rfl rfl zy_41 zk_41
    dsimp only at hk h
    refine ⟨g6, r7, hk, ?_⟩
    have h := zm zy_71 h 5 (q := (182, dset (dset lf 1 (0, a)) 0 (4, 90), [(0, a), (4, 55)], cup g6 55 ((a).toNat) r7)) rfl
    dsimp only at h
    have h := zald zy_71 h rfl rfl (dvb_55 ha3 hb4)
    have h : zr sv L n 71 183 (dset (dset lf 1 (0, a)) 0 (4, 90)) [(0, r7)] (cup g6 55 ((a).toNat) r7) o := by first | exact h | (rw [cup_at] at h; exact h) | ((repeat rw [cup_ne (by omega)] at h); exact h)
    have h := zm zy_71 h 2 (q := (cond (crel .eq r7 ((-1))) 191 187, dset (dset lf 1 (0, a)) 0 (4, 90), [], cup g6 55 ((a).toNat) r7)) rfl
    dsimp only at h
    rcases zif_eq h with ⟨hc8, h⟩ | ⟨hc8, h⟩
    · refine Or.inl ⟨hc8, ?_⟩
      have h := zm zy_71 h 1 (q := (192, dset (dset lf 1 (0, a)) 0 (4, 90), [(0, 0)], cup g6 55 ((a).toNat) r7)) rfl
      dsimp only at h
      exact zret zy_71 h rfl rfl
    · refine Or.inr ⟨hc8, ?_⟩
      have h := zm zy_71 h 2 (q := (192, dset (dset lf 1 (0, a)) 0 (4, 90), [(0, 1)], cup g6 55 ((a).toNat) r7)) rfl
      dsimp only at h
      exact zret zy_71 h rfl rfl
  · refine Or.inr ⟨hc5, ?_⟩
    have h := zm zy_71 h 1 (q := (153, dset (dset lf 1 (0, a)) 0 (4, 90), [(0, 0)], cup g1 56 ((a).toNat) r2)) rfl
    dsimp only at h
    exact zret zy_71 h rfl rfl
theorem t_step {sv : Nat → Int32} {L n : Nat} {lf : dlf} {g : cg} {o : cg × Option cv} (h : zr sv L n 67 0 lf [] g o) (h0 : lf 0 = (4, 90)) : ∃ g1 r2, zr sv L n 68 0 (darg 0 [(4, 90), (0, g 88 7)]) [] g (g1, some (0, r2)) ∧ ((r2 ≠ 0 ∧ (∃ g4 r5, zr sv L n 70 0 (darg 0 [(4, 90), (0, g 88 7)]) [] g1 (g4, some (0, r5)) ∧ (∃ g6, zr sv L n 37 0 (darg 0 [(4, 88)]) [] g4 (g6, none) ∧ ((g 88 7 = 14 ∧ (∃ g7 r8, zr sv L n 75 0 (darg 0 [(4, 90), (0, r5)]) [] (cup g6 51 ((r5).toNat) 0) (g7, some (0, r8)) ∧ ((r8 = 0 ∧ (o = (g7, some (0, 0)))) ∨ (r8 ≠ 0 ∧ (∃ g10 r11, zr sv L n 46 0 (darg 0 [(4, 88), (0, 15)]) [] g7 (g10, some (0, r11)) ∧ ((r11 = 0 ∧ (o = (g10, some (0, 0)))) ∨ (r11 ≠ 0 ∧ (∃ g13 r14, zr sv L n 72 0 (darg 0 [(4, 90), (0, r5)]) [] g10 (g13, some (0, r14)) ∧ ((r14 = 0 ∧ (o = (g13, some (0, 0)))) ∨ (r14 ≠ 0 ∧ (∃ g16 r17, zr sv L n 42 0 (darg 0 [(4, 88)]) [] g13 (g16, some (0, r17)) ∧ ((r17 = 0 ∧ (o = (g16, some (0, 0)))) ∨ (r17 ≠ 0 ∧ (o = (g16, some (0, 1)))))))))))))))) ∨ (g 88 7 = 15 ∧ (∃ g19 r20, zr sv L n 42 0 (darg 0 [(4, 88)]) [] (cup g6 51 ((r5).toNat) 8) (g19, some (0, r20)) ∧ (o = (g19, some (0, r20))))) ∨ (g 88 7 = 16 ∧ (∃ g21 r22, zr sv L n 72 0 (darg 0 [(4, 90), (0, r5)]) [] (cup g6 51 ((r5).toNat) 2) (g21, some (0, r22)) ∧ ((r22 = 0 ∧ (o = (g21, some (0, 0)))) ∨ (r22 ≠ 0 ∧ (∃ g24 r25, zr sv L n 42 0 (darg 0 [(4, 88)]) [] g21 (g24, some (0, r25)) ∧ ((r25 = 0 ∧ (o = (g24, some (0, 0)))) ∨ (r25 ≠ 0 ∧ (o = (g24, some (0, 1)))))))))) ∨ (g 88 7 = 17 ∧ (∃ g27 r28, zr sv L n 75 0 (darg 0 [(4, 90), (0, r5)]) [] (cup g6 51 ((r5).toNat) 3) (g27, some (0, r28)) ∧ ((r28 = 0 ∧ (o = (g27, some (0, 0)))) ∨ (r28 ≠ 0 ∧ (∃ g30 r31, zr sv L n 42 0 (darg 0 [(4, 88)]) [] g27 (g30, some (0, r31)) ∧ ((r31 = 0 ∧ (o = (g30, some (0, 0)))) ∨ (r31 ≠ 0 ∧ (o = (g30, some (0, 1)))))))))) ∨ (g 88 7 = 18 ∧ (∃ g33 r34, zr sv L n 75 0 (darg 0 [(4, 90), (0, r5)]) [] (cup g6 51 ((r5).toNat) 1) (g33, some (0, r34)) ∧ ((r34 = 0 ∧ (o = (g33, some (0, 0)))) ∨ (r34 ≠ 0 ∧ (∃ g36 r37, zr sv L n 46 0 (darg 0 [(4, 88), (0, 15)]) [] g33 (g36, some (0, r37)) ∧ ((r37 = 0 ∧ (o = (g36, some (0, 0)))) ∨ (r37 ≠ 0 ∧ (∃ g39 r40, zr sv L n 73 0 (darg 0 [(4, 90), (0, r5)]) [] g36 (g39, some (0, r40)) ∧ ((r40 = 0 ∧ (o = (g39, some (0, 0)))) ∨ (r40 ≠ 0 ∧ (∃ g42 r43, zr sv L n 42 0 (darg 0 [(4, 88)]) [] g39 (g42, some (0, r43)) ∧ ((r43 = 0 ∧ (o = (g42, some (0, 0)))) ∨ (r43 ≠ 0 ∧ (o = (g42, some (0, 1)))))))))))))))) ∨ (g 88 7 = 19 ∧ (∃ g45 r46, zr sv L n 71 0 (darg 0 [(4, 90), (0, r5)]) [] g6 (g45, some (0, r46)) ∧ ((r46 = 0 ∧ (o = (g45, some (0, 0)))) ∨ (r46 ≠ 0 ∧ (∃ g48 r49, zr sv L n 42 0 (darg 0 [(4, 88)]) [] g45 (g48, some (0, r49)) ∧ ((r49 = 0 ∧ (o = (g48, some (0, 0)))) ∨ (r49 ≠ 0 ∧ (o = (g48, some (0, 1)))))))))) ∨ (g 88 7 = 20 ∧ (∃ g51 r52, zr sv L n 42 0 (darg 0 [(4, 88)]) [] (cup g6 51 ((r5).toNat) 8) (g51, some (0, r52)) ∧ (o = (g51, some (0, r52))))) ∨ (g 88 7 = 21 ∧ (∃ g53 r54, zr sv L n 42 0 (darg 0 [(4, 88)]) [] (cup g6 51 ((r5).toNat) 8) (g53, some (0, r54)) ∧ (o = (g53, some (0, r54))))) ∨ (g 88 7 = 22 ∧ (∃ g55 r56, zr sv L n 41 0 (darg 0 [(4, 88), (0, 1), (0, 99)]) [] (cup g6 51 ((r5).toNat) 7) (g55, some (0, r56)) ∧ (0 ≤ r5 → r5 < 60 → ((r56 = (-1) ∧ (o = (cup g55 55 ((r5).toNat) r56, some (0, 0)))) ∨ (r56 ≠ (-1) ∧ (∃ g60 r61, zr sv L n 42 0 (darg 0 [(4, 88)]) [] (cup g55 55 ((r5).toNat) r56) (g60, some (0, r61)) ∧ ((r61 = 0 ∧ (o = (g60, some (0, 0)))) ∨ (r61 ≠ 0 ∧ (o = (g60, some (0, 1))))))))))) ∨ ((g 88 7 < 14 ∨ 22 < g 88 7) ∧ (∃ g63 r64, zr sv L n 42 0 (darg 0 [(4, 88)]) [] (cup g6 51 ((r5).toNat) 8) (g63, some (0, r64)) ∧ (o = (g63, some (0, r64))))))))) ∨ (r2 = 0 ∧ (o = (g1, some (0, 0))))) := by
  rw [zov h0] at h
  have h := zm zy_67 h 6 (q := (10, dset (dset lf 0 (4, 90)) 1 (0, g 88 7), [(0, g 88 7), (4, 90)], g)) rfl
  dsimp only at h
  obtain ⟨g1, r2, hk, h⟩ := zcallI zy_67 h rfl rfl zy_68 zk_68
  dsimp only at hk h
  refine ⟨g1, r2, hk, ?_⟩
  have h := zm zy_67 h 1 (q := (cond (crel .ne r2 0) 18 16, dset (dset lf 0 (4, 90)) 1 (0, g 88 7), [], g1)) rfl
  dsimp only at h
  rcases zif_ne h with ⟨hc3, h⟩ | ⟨hc3, h⟩
  · refine Or.inl ⟨hc3, ?_⟩
    have h := zm zy_67 h 2 (q := (20, dset (dset lf 0 (4, 90)) 1 (0, g 88 7), [(0, g 88 7), (4, 90)], g1)) rfl
    dsimp only at h
    obtain ⟨g4, r5, hk, h⟩ := zcallI zy_67 h rfl rfl zy_70 zk_70
    dsimp only at hk h
    refine ⟨g4, r5, hk, ?_⟩
    have h := zm zy_67 h 3 (q := (28, dset (dset (dset lf 0 (4, 90)) 1 (0, g 88 7)) 2 (0, r5), [(4, 88)], g4)) rfl
    dsimp only at h
    obtain ⟨g6, hk, h⟩ := zcallV zy_67 h rfl rfl zy_37 zk_37
    dsimp only at hk h
    refine ⟨g6, hk, ?_⟩
    have h := zm zy_67 h 1 (q := (32, dset (dset (dset lf 0 (4, 90)) 1 (0, g 88 7)) 2 (0, r5), [(0, g 88 7)], g6)) rfl
    dsimp only at h
    rcases ztab_14_22 (z := g 88 7) with hz | hz | hz | hz | hz | hz | hz | hz | hz | hz
    · have h := ztabv h hz
      have h := zm zy_67 h 1 (q := (84, dset (dset (dset lf 0 (4, 90)) 1 (0, g 88 7)) 2 (0, r5), [], g6)) rfl
      dsimp only at h
      refine Or.inl ⟨hz, ?_⟩
      have h := zm zy_67 h 8 (q := (96, dset (dset (dset lf 0 (4, 90)) 1 (0, g 88 7)) 2 (0, r5), [(0, r5), (4, 90)], cup g6 51 ((r5).toNat) 0)) rfl
      dsimp only at h
      obtain ⟨g7, r8, hk, h⟩ := zcallI zy_67 h rfl rfl zy_75 zk_75
      dsimp only at hk h
      refine ⟨g7, r8, hk, ?_⟩
      have h := zm zy_67 h 1 (q := (cond (crel .eq r8 0) 136 102, dset (dset (dset lf 0 (4, 90)) 1 (0, g 88 7)) 2 (0, r5), [], g7)) rfl
      dsimp only at h
      rcases zif_eq h with ⟨hc9, h⟩ | ⟨hc9, h⟩
      · refine Or.inl ⟨hc9, ?_⟩
        have h := zm zy_67 h 1 (q := (137, dset (dset (dset lf 0 (4, 90)) 1 (0, g 88 7)) 2 (0, r5), [(0, 0)], g7)) rfl
        dsimp only at h
        exact zret zy_67 h rfl rfl
      · refine Or.inr ⟨hc9, ?_⟩
        have h := zm zy_67 h 3 (q := (108, dset (dset (dset lf 0 (4, 90)) 1 (0, g 88 7)) 2 (0, r5), [(0, 15), (4, 88)], g7)) rfl
        dsimp only at h
        obtain ⟨g10, r11, hk, h⟩ := zcallI zy_67 h rfl rfl zy_46 zk_46
        dsimp only at hk h
        refine ⟨g10, r11, hk, ?_⟩
        have h := zm zy_67 h 1 (q := (cond (crel .eq r11 0) 136 114, dset (dset (dset lf 0 (4, 90)) 1 (0, g 88 7)) 2 (0, r5), [], g10)) rfl
        dsimp only at h
        rcases zif_eq h with ⟨hc12, h⟩ | ⟨hc12, h⟩
        · refine Or.inl ⟨hc12, ?_⟩
          have h := zm zy_67 h 1 (q := (137, dset (dset (dset lf 0 (4, 90)) 1 (0, g 88 7)) 2 (0, r5), [(0, 0)], g10)) rfl
          dsimp only at h
          exact zret zy_67 h rfl rfl
        · refine Or.inr ⟨hc12, ?_⟩
          have h := zm zy_67 h 2 (q := (116, dset (dset (dset lf 0 (4, 90)) 1 (0, g 88 7)) 2 (0, r5), [(0, r5), (4, 90)], g10)) rfl
          dsimp only at h
          obtain ⟨g13, r14, hk, h⟩ := zcallI zy_67 h rfl rfl zy_72 zk_72
          dsimp only at hk h
          refine ⟨g13, r14, hk, ?_⟩
          have h := zm zy_67 h 1 (q := (cond (crel .eq r14 0) 136 122, dset (dset (dset lf 0 (4, 90)) 1 (0, g 88 7)) 2 (0, r5), [], g13)) rfl
          dsimp only at h
          rcases zif_eq h with ⟨hc15, h⟩ | ⟨hc15, h⟩
          · refine Or.inl ⟨hc15, ?_⟩
            have h := zm zy_67 h 1 (q := (137, dset (dset (dset lf 0 (4, 90)) 1 (0, g 88 7)) 2 (0, r5), [(0, 0)], g13)) rfl
            dsimp only at h
            exact zret zy_67 h rfl rfl
          · refine Or.inr ⟨hc15, ?_⟩
            have h := zm zy_67 h 2 (q := (126, dset (dset (dset lf 0 (4, 90)) 1 (0, g 88 7)) 2 (0, r5), [(4, 88)], g13)) rfl
            dsimp only at h
            obtain ⟨g16, r17, hk, h⟩ := zcallI zy_67 h rfl rfl zy_42 zk_42
            dsimp only at hk h
            refine ⟨g16, r17, hk, ?_⟩
            have h := zm zy_67 h 1 (q := (cond (crel .eq r17 0) 136 132, dset (dset (dset lf 0 (4, 90)) 1 (0, g 88 7)) 2 (0, r5), [], g16)) rfl
            dsimp only at h
            rcases zif_eq h with ⟨hc18, h⟩ | ⟨hc18, h⟩
            · refine Or.inl ⟨hc18, ?_⟩
              have h := zm zy_67 h 1 (q := (137, dset (dset (dset lf 0 (4, 90)) 1 (0, g 88 7)) 2 (0, r5), [(0, 0)], g16)) rfl
              dsimp only at h
              exact zret zy_67 h rfl rfl
            · refine Or.inr ⟨hc18, ?_⟩
              have h := zm zy_67 h 2 (q := (137, dset (dset (dset lf 0 (4, 90)) 1 (0, g 88 7)) 2 (0, r5), [(0, 1)], g16)) rfl
              dsimp only at h
              exact zret zy_67 h rfl rfl
    · have h := ztabv h hz
      have h := zm zy_67 h 1 (q := (343, dset (dset (dset lf 0 (4, 90)) 1 (0, g 88 7)) 2 (0, r5), [], g6)) rfl
      dsimp only at h
      refine Or.inr (Or.inl ⟨hz, ?_⟩)
      have h := zm zy_67 h 8 (q := (358, dset (dset (dset lf 0 (4, 90)) 1 (0, g 88 7)) 2 (0, r5), [(4, 88)], cup g6 51 ((r5).toNat) 8)) rfl
      dsimp only at h
      obtain ⟨g19, r20, hk, h⟩ := zcallI zy_67 h rfl rfl zy_42 zk_42
      dsimp only at hk h
      refine ⟨g19, r20, hk, ?_⟩
      exact zret zy_67 h rfl rfl
    · have h := ztabv h hz
      have h := zm zy_67 h 1 (q := (192, dset (dset (dset lf 0 (4, 90)) 1 (0, g 88 7)) 2 (0, r5), [], g6)) rfl
      dsimp only at h
      refine Or.inr (Or.inr (Or.inl ⟨hz, ?_⟩))
      have h := zm zy_67 h 8 (q := (204, dset (dset (dset lf 0 (4, 90)) 1 (0, g 88 7)) 2 (0, r5), [(0, r5), (4, 90)], cup g6 51 ((r5).toNat) 2)) rfl
      dsimp only at h
      obtain ⟨g21, r22, hk, h⟩ := zcallI zy_67 h rfl rfl zy_72 zk_72
      dsimp only at hk h
      refine ⟨g21, r22, hk, ?_⟩
      have h := zm zy_67 h 1 (q := (cond (crel .eq r22 0) 224 210, dset (dset (dset lf 0 (4, 90)) 1 (0, g 88 7)) 2 (0, r5), [], g21)) rfl
      dsimp only at h
      rcases zif_eq h with ⟨hc23, h⟩ | ⟨hc23, h⟩
      · refine Or.inl ⟨hc23, ?_⟩
        have h := zm zy_67 h 1 (q := (225, dset (dset (dset lf 0 (4, 90)) 1 (0, g 88 7)) 2 (0, r5), [(0, 0)], g21)) rfl
        dsimp only at h
        exact zret zy_67 h rfl rfl
      · refine Or.inr ⟨hc23, ?_⟩
        have h := zm zy_67 h 2 (q := (214, dset (dset (dset lf 0 (4, 90)) 1 (0, g 88 7)) 2 (0, r5), [(4, 88)], g21)) rfl
        dsimp only at h
        obtain ⟨g24, r25, hk, h⟩ := zcallI zy_67 h rfl rfl zy_42 zk_42
        dsimp only at hk h
        refine ⟨g24, r25, hk, ?_⟩
        have h := zm zy_67 h 1 (q := (cond (crel .eq r25 0) 224 220, dset (dset (dset lf 0 (4, 90)) 1 (0, g 88 7)) 2 (0, r5), [], g24)) rfl
        dsimp only at h
        rcases zif_eq h with ⟨hc26, h⟩ | ⟨hc26, h⟩
        · refine Or.inl ⟨hc26, ?_⟩
          have h := zm zy_67 h 1 (q := (225, dset (dset (dset lf 0 (4, 90)) 1 (0, g 88 7)) 2 (0, r5), [(0, 0)], g24)) rfl
          dsimp only at h
          exact zret zy_67 h rfl rfl
        · refine Or.inr ⟨hc26, ?_⟩
          have h := zm zy_67 h 2 (q := (225, dset (dset (dset lf 0 (4, 90)) 1 (0, g 88 7)) 2 (0, r5), [(0, 1)], g24)) rfl
          dsimp only at h
          exact zret zy_67 h rfl rfl
    · have h := ztabv h hz
      have h := zm zy_67 h 1 (q := (226, dset (dset (dset lf 0 (4, 90)) 1 (0, g 88 7)) 2 (0, r5), [], g6)) rfl
      dsimp only at h
      refine Or.inr (Or.inr (Or.inr (Or.inl ⟨hz, ?_⟩)))
      have h := zm zy_67 h 8 (q := (238, dset (dset (dset lf 0 (4, 90)) 1 (0, g 88 7)) 2 (0, r5), [(0, r5), (4, 90)], cup g6 51 ((r5).toNat) 3)) rfl
      dsimp only at h
      obtain ⟨g27, r28, hk, h⟩ := zcallI zy_67 h rfl rfl zy_75 zk_75
      dsimp only at hk h
      refine ⟨g27, r28, hk, ?_⟩
      have h := zm zy_67 h 1 (q := (cond (crel .eq r28 0) 258 244, dset (dset (dset lf 0 (4, 90)) 1 (0, g 88 7)) 2 (0, r5), [], g27)) rfl
      dsimp only at h
      rcases zif_eq h with ⟨hc29, h⟩ | ⟨hc29, h⟩
      · refine Or.inl ⟨hc29, ?_⟩
        have h := zm zy_67 h 1 (q := (259, dset (dset (dset lf 0 (4, 90)) 1 (0, g 88 7)) 2 (0, r5), [(0, 0)], g27)) rfl
        dsimp only at h
        exact zret zy_67 h rfl rfl
      · refine Or.inr ⟨hc29, ?_⟩
        have h := zm zy_67 h 2 (q := (248, dset (dset (dset lf 0 (4, 90)) 1 (0, g 88 7)) 2 (0, r5), [(4, 88)], g27)) rfl
        dsimp only at h
        obtain ⟨g30, r31, hk, h⟩ := zcallI zy_67 h rfl rfl zy_42 zk_42
        dsimp only at hk h
        refine ⟨g30, r31, hk, ?_⟩
        have h := zm zy_67 h 1 (q := (cond (crel .eq r31 0) 258 254, dset (dset (dset lf 0 (4, 90)) 1 (0, g 88 7)) 2 (0, r5), [], g30)) rfl
        dsimp only at h
        rcases zif_eq h with ⟨hc32, h⟩ | ⟨hc32, h⟩
        · refine Or.inl ⟨hc32, ?_⟩
          have h := zm zy_67 h 1 (q := (259, dset (dset (dset lf 0 (4, 90)) 1 (0, g 88 7)) 2 (0, r5), [(0, 0)], g30)) rfl
          dsimp only at h
          exact zret zy_67 h rfl rfl
        · refine Or.inr ⟨hc32, ?_⟩
          have h := zm zy_67 h 2 (q := (259, dset (dset (dset lf 0 (4, 90)) 1 (0, g 88 7)) 2 (0, r5), [(0, 1)], g30)) rfl
          dsimp only at h
          exact zret zy_67 h rfl rfl
    · have h := ztabv h hz
      have h := zm zy_67 h 1 (q := (138, dset (dset (dset lf 0 (4, 90)) 1 (0, g 88 7)) 2 (0, r5), [], g6)) rfl
      dsimp only at h
      refine Or.inr (Or.inr (Or.inr (Or.inr (Or.inl ⟨hz, ?_⟩))))
      have h := zm zy_67 h 8 (q := (150, dset (dset (dset lf 0 (4, 90)) 1 (0, g 88 7)) 2 (0, r5), [(0, r5), (4, 90)], cup g6 51 ((r5).toNat) 1)) rfl
      dsimp only at h
      obtain ⟨g33, r34, hk, h⟩ := zcallI zy_67 h rfl rfl zy_75 zk_75
      dsimp only at hk h
      refine ⟨g33, r34, hk, ?_⟩
      have h := zm zy_67 h 1 (q := (cond (crel .eq r34 0) 190 156, dset (dset (dset lf 0 (4, 90)) 1 (0, g 88 7)) 2 (0, r5), [], g33)) rfl
      dsimp only at h
      rcases zif_eq h with ⟨hc35, h⟩ | ⟨hc35, h⟩
      · refine Or.inl ⟨hc35, ?_⟩
        have h := zm zy_67 h 1 (q := (191, dset (dset (dset lf 0 (4, 90)) 1 (0, g 88 7)) 2 (0, r5), [(0, 0)], g33)) rfl
        dsimp only at h
        exact zret zy_67 h rfl rfl
      · refine Or.inr ⟨hc35, ?_⟩
        have h := zm zy_67 h 3 (q := (162, dset (dset (dset lf 0 (4, 90)) 1 (0, g 88 7)) 2 (0, r5), [(0, 15), (4, 88)], g33)) rfl
        dsimp only at h
        obtain ⟨g36, r37, hk, h⟩ := zcallI zy_67 h rfl rfl zy_46 zk_46
        dsimp only at hk h
        refine ⟨g36, r37, hk, ?_⟩
        have h := zm zy_67 h 1 (q := (cond (crel .eq r37 0) 190 168, dset (dset (dset lf 0 (4, 90)) 1 (0, g 88 7)) 2 (0, r5), [], g36)) rfl
        dsimp only at h
        rcases zif_eq h with ⟨hc38, h⟩ | ⟨hc38, h⟩
        · refine Or.inl ⟨hc38, ?_⟩
          have h := zm zy_67 h 1 (q := (191, dset (dset (dset lf 0 (4, 90)) 1 (0, g 88 7)) 2 (0, r5), [(0, 0)], g36)) rfl
          dsimp only at h
          exact zret zy_67 h rfl rfl
        · refine Or.inr ⟨hc38, ?_⟩
          have h := zm zy_67 h 2 (q := (170, dset (dset (dset lf 0 (4, 90)) 1 (0, g 88 7)) 2 (0, r5), [(0, r5), (4, 90)], g36)) rfl
          dsimp only at h
          obtain ⟨g39, r40, hk, h⟩ := zcallI zy_67 h rfl rfl zy_73 zk_73
          dsimp only at hk h
          refine ⟨g39, r40, hk, ?_⟩
          have h := zm zy_67 h 1 (q := (cond (crel .eq r40 0) 190 176, dset (dset (dset lf 0 (4, 90)) 1 (0, g 88 7)) 2 (0, r5), [], g39)) rfl
          dsimp only at h
          rcases zif_eq h with ⟨hc41, h⟩ | ⟨hc41, h⟩
          · refine Or.inl ⟨hc41, ?_⟩
            have h := zm zy_67 h 1 (q := (191, dset (dset (dset lf 0 (4, 90)) 1 (0, g 88 7)) 2 (0, r5), [(0, 0)], g39)) rfl
            dsimp only at h
            exact zret zy_67 h rfl rfl
          · refine Or.inr ⟨hc41, ?_⟩
            have h := zm zy_67 h 2 (q := (180, dset (dset (dset lf 0 (4, 90)) 1 (0, g 88 7)) 2 (0, r5), [(4, 88)], g39)) rfl
            dsimp only at h
            obtain ⟨g42, r43, hk, h⟩ := zcallI zy_67 h rfl rfl zy_42 zk_42
            dsimp only at hk h
            refine ⟨g42, r43, hk, ?_⟩
            have h := zm zy_67 h 1 (q := (cond (crel .eq r43 0) 190 186, dset (dset (dset lf 0 (4, 90)) 1 (0, g 88 7)) 2 (0, r5), [], g42)) rfl
            dsimp only at h
            rcases zif_eq h with ⟨hc44, h⟩ | ⟨hc44, h⟩
            · refine Or.inl ⟨hc44, ?_⟩
              have h := zm zy_67 h 1 (q := (191, dset (dset (dset lf 0 (4, 90)) 1 (0, g 88 7)) 2 (0, r5), [(0, 0)], g42)) rfl
              dsimp only at h
              exact zret zy_67 h rfl rfl
            · refine Or.inr ⟨hc44, ?_⟩
              have h := zm zy_67 h 2 (q := (191, dset (dset (dset lf 0 (4, 90)) 1 (0, g 88 7)) 2 (0, r5), [(0, 1)], g42)) rfl
              dsimp only at h
              exact zret zy_67 h rfl rfl
    · have h := ztabv h hz
      have h := zm zy_67 h 1 (q := (260, dset (dset (dset lf 0 (4, 90)) 1 (0, g 88 7)) 2 (0, r5), [], g6)) rfl
      dsimp only at h
      refine Or.inr (Or.inr (Or.inr (Or.inr (Or.inr (Or.inl ⟨hz, ?_⟩)))))
      have h := zm zy_67 h 2 (q := (262, dset (dset (dset lf 0 (4, 90)) 1 (0, g 88 7)) 2 (0, r5), [(0, r5), (4, 90)], g6)) rfl
      dsimp only at h
      obtain ⟨g45, r46, hk, h⟩ := zcallI zy_67 h rfl rfl zy_71 zk_71
      dsimp only at hk h
      refine ⟨g45, r46, hk, ?_⟩
      have h := zm zy_67 h 1 (q := (cond (crel .eq r46 0) 282 268, dset (dset (dset lf 0 (4, 90)) 1 (0, g 88 7)) 2 (0, r5), [], g45)) rfl
      dsimp only at h
      rcases zif_eq h with ⟨hc47, h⟩ | ⟨hc47, h⟩
      · refine Or.inl ⟨hc47, ?_⟩
        have h := zm zy_67 h 1 (q := (283, dset (dset (dset lf 0 (4, 90)) 1 (0, g 88 7)) 2 (0, r5), [(0, 0)], g45)) rfl
        dsimp only at h
        exact zret zy_67 h rfl rfl
      · refine Or.inr ⟨hc47, ?_⟩
        have h := zm zy_67 h 2 (q := (272, dset (dset (dset lf 0 (4, 90)) 1 (0, g 88 7)) 2 (0, r5), [(4, 88)], g45)) rfl
        dsimp only at h
        obtain ⟨g48, r49, hk, h⟩ := zcallI zy_67 h rfl rfl zy_42 zk_42
        dsimp only at hk h
        refine ⟨g48, r49, hk, ?_⟩
        have h := zm zy_67 h 1 (q := (cond (crel .eq r49 0) 282 278, dset (dset (dset lf 0 (4, 90)) 1 (0, g 88 7)) 2 (0, r5), [], g48)) rfl
        dsimp only at h
        rcases zif_eq h with ⟨hc50, h⟩ | ⟨hc50, h⟩
        · refine Or.inl ⟨hc50, ?_⟩
          have h := zm zy_67 h 1 (q := (283, dset (dset (dset lf 0 (4, 90)) 1 (0, g 88 7)) 2 (0, r5), [(0, 0)], g48)) rfl
          dsimp only at h
          exact zret zy_67 h rfl rfl
        · refine Or.inr ⟨hc50, ?_⟩
          have h := zm zy_67 h 2 (q := (283, dset (dset (dset lf 0 (4, 90)) 1 (0, g 88 7)) 2 (0, r5), [(0, 1)], g48)) rfl
          dsimp only at h
          exact zret zy_67 h rfl rfl
    · have h := ztabv h hz
      have h := zm zy_67 h 1 (q := (343, dset (dset (dset lf 0 (4, 90)) 1 (0, g 88 7)) 2 (0, r5), [], g6)) rfl
      dsimp only at h
      refine Or.inr (Or.inr (Or.inr (Or.inr (Or.inr (Or.inr (Or.inl ⟨hz, ?_⟩))))))
      have h := zm zy_67 h 8 (q := (358, dset (dset (dset lf 0 (4, 90)) 1 (0, g 88 7)) 2 (0, r5), [(4, 88)], cup g6 51 ((r5).toNat) 8)) rfl
      dsimp only at h
      obtain ⟨g51, r52, hk, h⟩ := zcallI zy_67 h rfl rfl zy_42 zk_42
      dsimp only at hk h
      refine ⟨g51, r52, hk, ?_⟩
      exact zret zy_67 h rfl rfl
    · have h := ztabv h hz
      have h := zm zy_67 h 1 (q := (343, dset (dset (dset lf 0 (4, 90)) 1 (0, g 88 7)) 2 (0, r5), [], g6)) rfl
      dsimp only at h
      refine Or.inr (Or.inr (Or.inr (Or.inr (Or.inr (Or.inr (Or.inr (Or.inl ⟨hz, ?_⟩)))))))
      have h := zm zy_67 h 8 (q := (358, dset (dset (dset lf 0 (4, 90)) 1 (0, g 88 7)) 2 (0, r5), [(4, 88)], cup g6 51 ((r5).toNat) 8)) rfl
      dsimp only at h
      obtain ⟨g53, r54, hk, h⟩ := zcallI zy_67 h rfl rfl zy_42 zk_42
      dsimp only at hk h
      refine ⟨g53, r54, hk, ?_⟩
      exact zret zy_67 h rfl rfl
    · have h := ztabv h hz
      have h := zm zy_67 h 1 (q := (284, dset (dset (dset lf 0 (4, 90)) 1 (0, g 88 7)) 2 (0, r5), [], g6)) rfl
      dsimp only at h
      refine Or.inr (Or.inr (Or.inr (Or.inr (Or.inr (Or.inr (Or.inr (Or.inr (Or.inl ⟨hz, ?_⟩))))))))
      have h := zm zy_67 h 14 (q := (310, dset (dset (dset lf 0 (4, 90)) 1 (0, g 88 7)) 2 (0, r5), [(0, 99), (0, 1), (4, 88), (0, r5), (4, 55)], cup g6 51 ((r5).toNat) 7)) rfl
      dsimp only at h
      obtain ⟨g55, r56, hk, h⟩ := zcallI zy_67 h rfl rfl zy_41 zk_41
      dsimp only at hk h
      refine ⟨g55, r56, hk, ?_⟩
      intro ha57 hb58
      have h := zm zy_67 h 5 (q := (322, dset (dset (dset lf 0 (4, 90)) 1 (0, g 88 7)) 2 (0, r5), [(0, r5), (4, 55)], cup g55 55 ((r5).toNat) r56)) rfl
      dsimp only at h
      have h := zald zy_67 h rfl rfl (dvb_55 ha57 hb58)
      have h : zr sv L n 67 323 (dset (dset (dset lf 0 (4, 90)) 1 (0, g 88 7)) 2 (0, r5)) [(0, r56)] (cup g55 55 ((r5).toNat) r56) o := by first | exact h | (rw [cup_at] at h; exact h) | ((repeat rw [cup_ne (by omega)] at h); exact h)
      have h := zm zy_67 h 2 (q := (cond (crel .eq r56 ((-1))) 341 327, dset (dset (dset lf 0 (4, 90)) 1 (0, g 88 7)) 2 (0, r5), [], cup g55 55 ((r5).toNat) r56)) rfl
      dsimp only at h
      rcases zif_eq h with ⟨hc59, h⟩ | ⟨hc59, h⟩
      · refine Or.inl ⟨hc59, ?_⟩
        have h := zm zy_67 h 1 (q := (342, dset (dset (dset lf 0 (4, 90)) 1 (0, g 88 7)) 2 (0, r5), [(0, 0)], cup g55 55 ((r5).toNat) r56)) rfl
        dsimp only at h
        exact zret zy_67 h rfl rfl
      · refine Or.inr ⟨hc59, ?_⟩
        have h := zm zy_67 h 2 (q := (331, dset (dset (dset lf 0 (4, 90)) 1 (0, g 88 7)) 2 (0, r5), [(4, 88)], cup g55 55 ((r5).toNat) r56)) rfl
        dsimp only at h
        obtain ⟨g60, r61, hk, h⟩ := zcallI zy_67 h rfl rfl zy_42 zk_42
        dsimp only at hk h
        refine ⟨g60, r61, hk, ?_⟩
        have h := zm zy_67 h 1 (q := (cond (crel .eq r61 0) 341 337, dset (dset (dset lf 0 (4, 90)) 1 (0, g 88 7)) 2 (0, r5), [], g60)) rfl
        dsimp only at h
        rcases zif_eq h with ⟨hc62, h⟩ | ⟨hc62, h⟩
        · refine Or.inl ⟨hc62, ?_⟩
          have h := zm zy_67 h 1 (q := (342, dset (dset (dset lf 0 (4, 90)) 1 (0, g 88 7)) 2 (0, r5), [(0, 0)], g60)) rfl
          dsimp only at h
          exact zret zy_67 h rfl rfl
        · refine Or.inr ⟨hc62, ?_⟩
          have h := zm zy_67 h 2 (q := (342, dset (dset (dset lf 0 (4, 90)) 1 (0, g 88 7)) 2 (0, r5), [(0, 1)], g60)) rfl
          dsimp only at h
          exact zret zy_67 h rfl rfl
    · have h := ztabd h zy_67 rfl hz (by decide)
      refine Or.inr (Or.inr (Or.inr (Or.inr (Or.inr (Or.inr (Or.inr (Or.inr (Or.inr (⟨hz, ?_⟩)))))))))
      have h := zm zy_67 h 8 (q := (358, dset (dset (dset lf 0 (4, 90)) 1 (0, g 88 7)) 2 (0, r5), [(4, 88)], cup g6 51 ((r5).toNat) 8)) rfl
      dsimp only at h
      obtain ⟨g63, r64, hk, h⟩ := zcallI zy_67 h rfl rfl zy_42 zk_42
      dsimp only at hk h
      refine ⟨g63, r64, hk, ?_⟩
      exact zret zy_67 h rfl rfl
  · refine Or.inr ⟨hc3, ?_⟩
    have h := zm zy_67 h 1 (q := (17, dset (dset lf 0 (4, 90)) 1 (0, g 88 7), [(0, 0)], g1)) rfl
    dsimp only at h
    exact zret zy_67 h rfl rfl
theorem m_perTo {sv : Nat → Int32} {L n : Nat} {lf : dlf} {g : cg} {o : cg × Option cv} {a : Int} (h : zr sv L n 197 0 lf [] g o) (h0 : lf 0 = (4, 253)) (h1 : lf 1 = (0, a)) : ∃ g1 r2, zr sv L n 180 0 (darg 0 [(4, 253), (0, 5), (0, g 254 1), (0, a)]) [] g (g1, some (0, r2)) ∧ (o = (g1, some (0, r2))) := by
  rw [zov h0, zov h1] at h
  have h := zm zy_197 h 7 (q := (9, dset (dset lf 1 (0, a)) 0 (4, 253), [(0, a), (0, g 254 1), (0, 5), (4, 253)], g)) rfl
  dsimp only at h
  obtain ⟨g1, r2, hk, h⟩ := zcallI zy_197 h rfl rfl zy_180 zk_180
  dsimp only at hk h
  refine ⟨g1, r2, hk, ?_⟩
  exact zret zy_197 h rfl rfl
theorem m_plcTo {sv : Nat → Int32} {L n : Nat} {lf : dlf} {g : cg} {o : cg × Option cv} {a : Int} (h : zr sv L n 198 0 lf [] g o) (h0 : lf 0 = (4, 253)) (h1 : lf 1 = (0, a)) : ∃ g1 r2, zr sv L n 180 0 (darg 0 [(4, 253), (0, 0), (0, g 254 0), (0, a)]) [] g (g1, some (0, r2)) ∧ (o = (g1, some (0, r2))) := by
  rw [zov h0, zov h1] at h
  have h := zm zy_198 h 7 (q := (9, dset (dset lf 1 (0, a)) 0 (4, 253), [(0, a), (0, g 254 0), (0, 0), (4, 253)], g)) rfl
  dsimp only at h
  obtain ⟨g1, r2, hk, h⟩ := zcallI zy_198 h rfl rfl zy_180 zk_180
  dsimp only at hk h
  refine ⟨g1, r2, hk, ?_⟩
  exact zret zy_198 h rfl rfl
theorem m_whr {sv : Nat → Int32} {L n : Nat} {lf : dlf} {g : cg} {o : cg × Option cv} {a : Int} (h : zr sv L n 196 0 lf [] g o) (h0 : lf 0 = (4, 253)) (h1 : lf 1 = (0, a)) : ∃ g1 r2, zr sv L n 197 0 (darg 0 [(4, 253), (0, w32 (a + 2))]) [] g (g1, some (0, r2)) ∧ ((r2 = 0 ∧ (o = (g1, some (0, 0)))) ∨ (r2 ≠ 0 ∧ (∃ g4 r5, zr sv L n 184 0 (darg 0 [(4, 253), (6, 3), (0, 12)]) [] g1 (g4, some (0, r5)) ∧ ((r5 = 0 ∧ (o = (g4, some (0, 0)))) ∨ (r5 ≠ 0 ∧ (∃ g7 r8, zr sv L n 198 0 (darg 0 [(4, 253), (0, w32 (a + 3))]) [] g4 (g7, some (0, r8)) ∧ ((r8 = 0 ∧ (o = (g7, some (0, 0)))) ∨ (r8 ≠ 0 ∧ (∃ g10 r11, zr sv L n 184 0 (darg 0 [(4, 253), (6, 3), (0, 13)]) [] g7 (g10, some (0, r11)) ∧ ((r11 = 0 ∧ (o = (g10, some (0, 0)))) ∨ (r11 ≠ 0 ∧ (∃ g13 r14, zr sv L n 175 0 (darg 0 [(4, 253), (0, w32 (a + 4)), (0, 0), (0, 7)]) [] g10 (g13, some (0, r14)) ∧ ((r14 = 0 ∧ (o = (g13, some (0, 0)))) ∨ (r14 ≠ 0 ∧ (o = (g13, some (0, 1))))))))))))))))) := by
  rw [zov h0, zov h1] at h
  have h := zm zy_196 h 4 (q := (4, dset (dset lf 1 (0, a)) 0 (4, 253), [(0, w32 (a + 2)), (4, 253)], g)) rfl
  dsimp only at h
  obtain ⟨g1, r2, hk, h⟩ := zcallI zy_196 h rfl rfl zy_197 zk_197
  dsimp only at hk h
  refine ⟨g1, r2, hk, ?_⟩
  have h := zm zy_196 h 1 (q := (cond (crel .eq r2 0) 59 10, dset (dset lf 1 (0, a)) 0 (4, 253), [], g1)) rfl
  dsimp only at h
  rcases zif_eq h with ⟨hc3, h⟩ | ⟨hc3, h⟩
  · refine Or.inl ⟨hc3, ?_⟩
    have h := zm zy_196 h 1 (q := (60, dset (dset lf 1 (0, a)) 0 (4, 253), [(0, 0)], g1)) rfl
    dsimp only at h
    exact zret zy_196 h rfl rfl
  · refine Or.inr ⟨hc3, ?_⟩
    have h := zm zy_196 h 3 (q := (15, dset (dset lf 1 (0, a)) 0 (4, 253), [(0, 12), (6, 3), (4, 253)], g1)) rfl
    dsimp only at h
    obtain ⟨g4, r5, hk, h⟩ := zcallI zy_196 h rfl rfl zy_184 zk_184
    dsimp only at hk h
    refine ⟨g4, r5, hk, ?_⟩
    have h := zm zy_196 h 1 (q := (cond (crel .eq r5 0) 59 21, dset (dset lf 1 (0, a)) 0 (4, 253), [], g4)) rfl
    dsimp only at h
    rcases zif_eq h with ⟨hc6, h⟩ | ⟨hc6, h⟩
    · refine Or.inl ⟨hc6, ?_⟩
      have h := zm zy_196 h 1 (q := (60, dset (dset lf 1 (0, a)) 0 (4, 253), [(0, 0)], g4)) rfl
      dsimp only at h
      exact zret zy_196 h rfl rfl
    · refine Or.inr ⟨hc6, ?_⟩
      have h := zm zy_196 h 4 (q := (25, dset (dset lf 1 (0, a)) 0 (4, 253), [(0, w32 (a + 3)), (4, 253)], g4)) rfl
      dsimp only at h
      obtain ⟨g7, r8, hk, h⟩ := zcallI zy_196 h rfl rfl zy_198 zk_198
      dsimp only at hk h
      refine ⟨g7, r8, hk, ?_⟩
      have h := zm zy_196 h 1 (q := (cond (crel .eq r8 0) 59 31, dset (dset lf 1 (0, a)) 0 (4, 253), [], g7)) rfl
      dsimp only at h
      rcases zif_eq h with ⟨hc9, h⟩ | ⟨hc9, h⟩
      · refine Or.inl ⟨hc9, ?_⟩
        have h := zm zy_196 h 1 (q := (60, dset (dset lf 1 (0, a)) 0 (4, 253), [(0, 0)], g7)) rfl
        dsimp only at h
        exact zret zy_196 h rfl rfl
      · refine Or.inr ⟨hc9, ?_⟩
        have h := zm zy_196 h 3 (q := (36, dset (dset lf 1 (0, a)) 0 (4, 253), [(0, 13), (6, 3), (4, 253)], g7)) rfl
        dsimp only at h
        obtain ⟨g10, r11, hk, h⟩ := zcallI zy_196 h rfl rfl zy_184 zk_184
        dsimp only at hk h
        refine ⟨g10, r11, hk, ?_⟩
        have h := zm zy_196 h 1 (q := (cond (crel .eq r11 0) 59 42, dset (dset lf 1 (0, a)) 0 (4, 253), [], g10)) rfl
        dsimp only at h
        rcases zif_eq h with ⟨hc12, h⟩ | ⟨hc12, h⟩
        · refine Or.inl ⟨hc12, ?_⟩
          have h := zm zy_196 h 1 (q := (60, dset (dset lf 1 (0, a)) 0 (4, 253), [(0, 0)], g10)) rfl
          dsimp only at h
          exact zret zy_196 h rfl rfl
        · refine Or.inr ⟨hc12, ?_⟩
          have h := zm zy_196 h 6 (q := (49, dset (dset lf 1 (0, a)) 0 (4, 253), [(0, 7), (0, 0), (0, w32 (a + 4)), (4, 253)], g10)) rfl
          dsimp only at h
          obtain ⟨g13, r14, hk, h⟩ := zcallI zy_196 h rfl rfl zy_175 zk_175
          dsimp only at hk h
          refine ⟨g13, r14, hk, ?_⟩
          have h := zm zy_196 h 1 (q := (cond (crel .eq r14 0) 59 55, dset (dset lf 1 (0, a)) 0 (4, 253), [], g13)) rfl
          dsimp only at h
          rcases zif_eq h with ⟨hc15, h⟩ | ⟨hc15, h⟩
          · refine Or.inl ⟨hc15, ?_⟩
            have h := zm zy_196 h 1 (q := (60, dset (dset lf 1 (0, a)) 0 (4, 253), [(0, 0)], g13)) rfl
            dsimp only at h
            exact zret zy_196 h rfl rfl
          · refine Or.inr ⟨hc15, ?_⟩
            have h := zm zy_196 h 2 (q := (60, dset (dset lf 1 (0, a)) 0 (4, 253), [(0, 1)], g13)) rfl
            dsimp only at h
            exact zret zy_196 h rfl rfl
theorem m_test {sv : Nat → Int32} {L n : Nat} {lf : dlf} {g : cg} {o : cg × Option cv} {a : Int} (h : zr sv L n 195 0 lf [] g o) (h0 : lf 0 = (4, 253)) (h1 : lf 1 = (0, a)) : ∃ g1 r2, zr sv L n 172 0 (darg 0 [(4, 253), (6, 3)]) [] g (g1, some (0, r2)) ∧ ((r2 = 23 ∧ (∃ g4, zr sv L n 166 0 (darg 0 [(4, 253)]) [] (cup g1 254 ((a).toNat) (w32 (1900 + r2))) (g4, none) ∧ (∃ lf'7, lf'7 0 = (4, 253) ∧ lf'7 1 = (0, a) ∧ zr sv L n 195 76 lf'7 [] g4 o))) ∨ (r2 ≠ 23 ∧ ((r2 = 9 ∧ (∃ g9, zr sv L n 166 0 (darg 0 [(4, 253)]) [] (cup g1 254 ((a).toNat) (w32 (1900 + r2))) (g9, none) ∧ (∃ g12 r13, zr sv L n 197 0 (darg 0 [(4, 253), (0, w32 (a + 1))]) [] g9 (g12, some (0, r13)) ∧ ((r13 ≠ 0 ∧ (∃ lf'15, lf'15 0 = (4, 253) ∧ lf'15 1 = (0, a) ∧ zr sv L n 195 76 lf'15 [] g12 o)) ∨ (r13 = 0 ∧ (o = (g12, some (0, 0)))))))) ∨ (r2 ≠ 9 ∧ ((r2 = 24 ∧ (∃ g17, zr sv L n 166 0 (darg 0 [(4, 253)]) [] (cup g1 254 ((a).toNat) (w32 (1900 + r2))) (g17, none) ∧ (∃ g19 r20, zr sv L n 196 0 (darg 0 [(4, 253), (0, a)]) [] g17 (g19, some (0, r20)) ∧ (o = (g19, some (0, r20)))))) ∨ (r2 ≠ 24 ∧ (∃ g21 r22, zr sv L n 173 0 (darg 0 [(4, 253), (0, 2)]) [] g1 (g21, some (0, r22)) ∧ (o = (g21, some (0, r22)))))))))) := by
  rw [zov h0, zov h1] at h
  have h := zm zy_195 h 2 (q := (3, dset (dset lf 1 (0, a)) 0 (4, 253), [(6, 3), (4, 253)], g)) rfl
  dsimp only at h
  obtain ⟨g1, r2, hk, h⟩ := zcallI zy_195 h rfl rfl zy_172 zk_172
  dsimp only at hk h
  refine ⟨g1, r2, hk, ?_⟩
  have h := zm zy_195 h 4 (q := (cond (crel .eq r2 23) 31 13, dset (dset (dset lf 1 (0, a)) 0 (4, 253)) 2 (0, r2), [], g1)) rfl
  dsimp only at h
  rcases zif_eq h with ⟨hc3, h⟩ | ⟨hc3, h⟩
  · refine Or.inl ⟨hc3, ?_⟩
    have h := zm zy_195 h 8 (q := (43, dset (dset (dset lf 1 (0, a)) 0 (4, 253)) 2 (0, r2), [(4, 253)], cup g1 254 ((a).toNat) (w32 (1900 + r2)))) rfl
    dsimp only at h
    obtain ⟨g4, hk, h⟩ := zcallV zy_195 h rfl rfl zy_166 zk_166
    dsimp only at hk h
    refine ⟨g4, hk, ?_⟩
    have h := zm zy_195 h 3 (q := (cond (crel .ne r2 24) 58 52, dset (dset (dset lf 1 (0, a)) 0 (4, 253)) 2 (0, r2), [], g4)) rfl
    dsimp only at h
    rcases zif_ne h with ⟨hc5, h⟩ | ⟨hc5, h⟩
    · have h := zm zy_195 h 3 (q := (cond (crel .ne r2 9) 76 64, dset (dset (dset lf 1 (0, a)) 0 (4, 253)) 2 (0, r2), [], g4)) rfl
      dsimp only at h
      rcases zif_ne h with ⟨hc6, h⟩ | ⟨hc6, h⟩
      · exact ⟨_, rfl, rfl, h⟩
      · exact absurd hc6 (by omega)
    · exact absurd hc5 (by omega)
  · refine Or.inr ⟨hc3, ?_⟩
    have h := zm zy_195 h 3 (q := (cond (crel .eq r2 9) 31 19, dset (dset (dset lf 1 (0, a)) 0 (4, 253)) 2 (0, r2), [], g1)) rfl
    dsimp only at h
    rcases zif_eq h with ⟨hc8, h⟩ | ⟨hc8, h⟩
    · refine Or.inl ⟨hc8, ?_⟩
      have h := zm zy_195 h 8 (q := (43, dset (dset (dset lf 1 (0, a)) 0 (4, 253)) 2 (0, r2), [(4, 253)], cup g1 254 ((a).toNat) (w32 (1900 + r2)))) rfl
      dsimp only at h
      obtain ⟨g9, hk, h⟩ := zcallV zy_195 h rfl rfl zy_166 zk_166
      dsimp only at hk h
      refine ⟨g9, hk, ?_⟩
      have h := zm zy_195 h 3 (q := (cond (crel .ne r2 24) 58 52, dset (dset (dset lf 1 (0, a)) 0 (4, 253)) 2 (0, r2), [], g9)) rfl
      dsimp only at h
      rcases zif_ne h with ⟨hc10, h⟩ | ⟨hc10, h⟩
      · have h := zm zy_195 h 3 (q := (cond (crel .ne r2 9) 76 64, dset (dset (dset lf 1 (0, a)) 0 (4, 253)) 2 (0, r2), [], g9)) rfl
        dsimp only at h
        rcases zif_ne h with ⟨hc11, h⟩ | ⟨hc11, h⟩
        · exact absurd hc11 (by omega)
        · have h := zm zy_195 h 4 (q := (68, dset (dset (dset lf 1 (0, a)) 0 (4, 253)) 2 (0, r2), [(0, w32 (a + 1)), (4, 253)], g9)) rfl
          dsimp only at h
          obtain ⟨g12, r13, hk, h⟩ := zcallI zy_195 h rfl rfl zy_197 zk_197
          dsimp only at hk h
          refine ⟨g12, r13, hk, ?_⟩
          have h := zm zy_195 h 1 (q := (cond (crel .ne r13 0) 76 74, dset (dset (dset lf 1 (0, a)) 0 (4, 253)) 2 (0, r2), [], g12)) rfl
          dsimp only at h
          rcases zif_ne h with ⟨hc14, h⟩ | ⟨hc14, h⟩
          · refine Or.inl ⟨hc14, ?_⟩
            exact ⟨_, rfl, rfl, h⟩
          · refine Or.inr ⟨hc14, ?_⟩
            have h := zm zy_195 h 1 (q := (75, dset (dset (dset lf 1 (0, a)) 0 (4, 253)) 2 (0, r2), [(0, 0)], g12)) rfl
            dsimp only at h
            exact zret zy_195 h rfl rfl
      · exact absurd hc10 (by omega)
    · refine Or.inr ⟨hc8, ?_⟩
      have h := zm zy_195 h 3 (q := (cond (crel .eq r2 24) 31 25, dset (dset (dset lf 1 (0, a)) 0 (4, 253)) 2 (0, r2), [], g1)) rfl
      dsimp only at h
      rcases zif_eq h with ⟨hc16, h⟩ | ⟨hc16, h⟩
      · refine Or.inl ⟨hc16, ?_⟩
        have h := zm zy_195 h 8 (q := (43, dset (dset (dset lf 1 (0, a)) 0 (4, 253)) 2 (0, r2), [(4, 253)], cup g1 254 ((a).toNat) (w32 (1900 + r2)))) rfl
        dsimp only at h
        obtain ⟨g17, hk, h⟩ := zcallV zy_195 h rfl rfl zy_166 zk_166
        dsimp only at hk h
        refine ⟨g17, hk, ?_⟩
        have h := zm zy_195 h 3 (q := (cond (crel .ne r2 24) 58 52, dset (dset (dset lf 1 (0, a)) 0 (4, 253)) 2 (0, r2), [], g17)) rfl
        dsimp only at h
        rcases zif_ne h with ⟨hc18, h⟩ | ⟨hc18, h⟩
        · exact absurd hc18 (by omega)
        · have h := zm zy_195 h 2 (q := (54, dset (dset (dset lf 1 (0, a)) 0 (4, 253)) 2 (0, r2), [(0, a), (4, 253)], g17)) rfl
          dsimp only at h
          obtain ⟨g19, r20, hk, h⟩ := zcallI zy_195 h rfl rfl zy_196 zk_196
          dsimp only at hk h
          refine ⟨g19, r20, hk, ?_⟩
          exact zret zy_195 h rfl rfl
      · refine Or.inr ⟨hc16, ?_⟩
        have h := zm zy_195 h 2 (q := (27, dset (dset (dset lf 1 (0, a)) 0 (4, 253)) 2 (0, r2), [(0, 2), (4, 253)], g1)) rfl
        dsimp only at h
        obtain ⟨g21, r22, hk, h⟩ := zcallI zy_195 h rfl rfl zy_173 zk_173
        dsimp only at hk h
        refine ⟨g21, r22, hk, ?_⟩
        exact zret zy_195 h rfl rfl
theorem m_test76 {sv : Nat → Int32} {L n : Nat} {lf : dlf} {g : cg} {o : cg × Option cv} {a : Int} (h : zr sv L n 195 76 lf [] g o) (h0 : lf 0 = (4, 253)) (h1 : lf 1 = (0, a)) : ∃ g1 r2, zr sv L n 177 0 (darg 0 [(4, 253), (0, 60)]) [] g (g1, some (0, r2)) ∧ ((r2 ≠ 0 ∧ (∃ g4, zr sv L n 166 0 (darg 0 [(4, 253)]) [] (cup g1 254 ((w32 (a + 6)).toNat) (g1 253 15)) (g4, none) ∧ (∃ g5 r6, zr sv L n 175 0 (darg 0 [(4, 253), (0, w32 (a + 2)), (0, 0), (0, 9999)]) [] g4 (g5, some (0, r6)) ∧ (o = (g5, some (0, r6)))))) ∨ (r2 = 0 ∧ (∃ g7 r8, zr sv L n 177 0 (darg 0 [(4, 253), (0, 62)]) [] g1 (g7, some (0, r8)) ∧ ((r8 ≠ 0 ∧ (∃ g10, zr sv L n 166 0 (darg 0 [(4, 253)]) [] (cup g7 254 ((w32 (a + 6)).toNat) (g7 253 15)) (g10, none) ∧ (∃ g11 r12, zr sv L n 175 0 (darg 0 [(4, 253), (0, w32 (a + 2)), (0, 0), (0, 9999)]) [] g10 (g11, some (0, r12)) ∧ (o = (g11, some (0, r12)))))) ∨ (r8 = 0 ∧ (∃ g13 r14, zr sv L n 177 0 (darg 0 [(4, 253), (0, 61)]) [] g7 (g13, some (0, r14)) ∧ ((r14 ≠ 0 ∧ (∃ g16, zr sv L n 166 0 (darg 0 [(4, 253)]) [] (cup g13 254 ((w32 (a + 6)).toNat) (g13 253 15)) (g16, none) ∧ (∃ g17 r18, zr sv L n 175 0 (darg 0 [(4, 253), (0, w32 (a + 2)), (0, 0), (0, 9999)]) [] g16 (g17, some (0, r18)) ∧ (o = (g17, some (0, r18)))))) ∨ (r14 = 0 ∧ (∃ g19 r20, zr sv L n 173 0 (darg 0 [(4, 253), (0, 2)]) [] g13 (g19, some (0, r20)) ∧ (o = (g19, some (0, r20)))))))))))) := by
  rw [zov h0, zov h1] at h
  have h := zm zy_195 h 2 (q := (79, dset (dset lf 1 (0, a)) 0 (4, 253), [(0, 60), (4, 253)], g)) rfl
  dsimp only at h
  obtain ⟨g1, r2, hk, h⟩ := zcallI zy_195 h rfl rfl zy_177 zk_177
  dsimp only at hk h
  refine ⟨g1, r2, hk, ?_⟩
  have h := zm zy_195 h 1 (q := (cond (crel .ne r2 0) 109 85, dset (dset lf 1 (0, a)) 0 (4, 253), [], g1)) rfl
  dsimp only at h
  rcases zif_ne h with ⟨hc3, h⟩ | ⟨hc3, h⟩
  · refine Or.inl ⟨hc3, ?_⟩
    have h := zm zy_195 h 9 (q := (123, dset (dset lf 1 (0, a)) 0 (4, 253), [(4, 253)], cup g1 254 ((w32 (a + 6)).toNat) (g1 253 15))) rfl
    dsimp only at h
    obtain ⟨g4, hk, h⟩ := zcallV zy_195 h rfl rfl zy_166 zk_166
    dsimp only at hk h
    refine ⟨g4, hk, ?_⟩
    have h := zm zy_195 h 6 (q := (134, dset (dset lf 1 (0, a)) 0 (4, 253), [(0, 9999), (0, 0), (0, w32 (a + 2)), (4, 253)], g4)) rfl
    dsimp only at h
    obtain ⟨g5, r6, hk, h⟩ := zcallI zy_195 h rfl rfl zy_175 zk_175
    dsimp only at hk h
    refine ⟨g5, r6, hk, ?_⟩
    exact zret zy_195 h rfl rfl
  · refine Or.inr ⟨hc3, ?_⟩
    have h := zm zy_195 h 2 (q := (88, dset (dset lf 1 (0, a)) 0 (4, 253), [(0, 62), (4, 253)], g1)) rfl
    dsimp only at h
    obtain ⟨g7, r8, hk, h⟩ := zcallI zy_195 h rfl rfl zy_177 zk_177
    dsimp only at hk h
    refine ⟨g7, r8, hk, ?_⟩
    have h := zm zy_195 h 1 (q := (cond (crel .ne r8 0) 109 94, dset (dset lf 1 (0, a)) 0 (4, 253), [], g7)) rfl
    dsimp only at h
    rcases zif_ne h with ⟨hc9, h⟩ | ⟨hc9, h⟩
    · refine Or.inl ⟨hc9, ?_⟩
      have h := zm zy_195 h 9 (q := (123, dset (dset lf 1 (0, a)) 0 (4, 253), [(4, 253)], cup g7 254 ((w32 (a + 6)).toNat) (g7 253 15))) rfl
      dsimp only at h
      obtain ⟨g10, hk, h⟩ := zcallV zy_195 h rfl rfl zy_166 zk_166
      dsimp only at hk h
      refine ⟨g10, hk, ?_⟩
      have h := zm zy_195 h 6 (q := (134, dset (dset lf 1 (0, a)) 0 (4, 253), [(0, 9999), (0, 0), (0, w32 (a + 2)), (4, 253)], g10)) rfl
      dsimp only at h
      obtain ⟨g11, r12, hk, h⟩ := zcallI zy_195 h rfl rfl zy_175 zk_175
      dsimp only at hk h
      refine ⟨g11, r12, hk, ?_⟩
      exact zret zy_195 h rfl rfl
    · refine Or.inr ⟨hc9, ?_⟩
      have h := zm zy_195 h 2 (q := (97, dset (dset lf 1 (0, a)) 0 (4, 253), [(0, 61), (4, 253)], g7)) rfl
      dsimp only at h
      obtain ⟨g13, r14, hk, h⟩ := zcallI zy_195 h rfl rfl zy_177 zk_177
      dsimp only at hk h
      refine ⟨g13, r14, hk, ?_⟩
      have h := zm zy_195 h 1 (q := (cond (crel .ne r14 0) 109 103, dset (dset lf 1 (0, a)) 0 (4, 253), [], g13)) rfl
      dsimp only at h
      rcases zif_ne h with ⟨hc15, h⟩ | ⟨hc15, h⟩
      · refine Or.inl ⟨hc15, ?_⟩
        have h := zm zy_195 h 9 (q := (123, dset (dset lf 1 (0, a)) 0 (4, 253), [(4, 253)], cup g13 254 ((w32 (a + 6)).toNat) (g13 253 15))) rfl
        dsimp only at h
        obtain ⟨g16, hk, h⟩ := zcallV zy_195 h rfl rfl zy_166 zk_166
        dsimp only at hk h
        refine ⟨g16, hk, ?_⟩
        have h := zm zy_195 h 6 (q := (134, dset (dset lf 1 (0, a)) 0 (4, 253), [(0, 9999), (0, 0), (0, w32 (a + 2)), (4, 253)], g16)) rfl
        dsimp only at h
        obtain ⟨g17, r18, hk, h⟩ := zcallI zy_195 h rfl rfl zy_175 zk_175
        dsimp only at hk h
        refine ⟨g17, r18, hk, ?_⟩
        exact zret zy_195 h rfl rfl
      · refine Or.inr ⟨hc15, ?_⟩
        have h := zm zy_195 h 2 (q := (105, dset (dset lf 1 (0, a)) 0 (4, 253), [(0, 2), (4, 253)], g13)) rfl
        dsimp only at h
        obtain ⟨g19, r20, hk, h⟩ := zcallI zy_195 h rfl rfl zy_173 zk_173
        dsimp only at hk h
        refine ⟨g19, r20, hk, ?_⟩
        exact zret zy_195 h rfl rfl
theorem m_ord {sv : Nat → Int32} {L n : Nat} {lf : dlf} {g : cg} {o : cg × Option cv} {a b : Int} (h : zr sv L n 194 0 lf [] g o) (h0 : lf 0 = (4, 253)) (h1 : lf 1 = (0, a)) (h2 : lf 2 = (0, b)) : (a = 14 ∧ (∃ g1 r2, zr sv L n 197 0 (darg 0 [(4, 253), (0, w32 (b + 1))]) [] g (g1, some (0, r2)) ∧ ((r2 = 0 ∧ (o = (g1, some (0, 0)))) ∨ (r2 ≠ 0 ∧ (∃ g4 r5, zr sv L n 184 0 (darg 0 [(4, 253), (6, 3), (0, 15)]) [] g1 (g4, some (0, r5)) ∧ ((r5 = 0 ∧ (o = (g4, some (0, 0)))) ∨ (r5 ≠ 0 ∧ (∃ g7 r8, zr sv L n 196 0 (darg 0 [(4, 253), (0, b)]) [] g4 (g7, some (0, r8)) ∧ ((r8 = 0 ∧ (o = (g7, some (0, 0)))) ∨ (r8 ≠ 0 ∧ (o = (g7, some (0, 1))))))))))))) ∨ (a = 15 ∧ (o = (g, some (0, 1)))) ∨ (a = 16 ∧ (∃ g10 r11, zr sv L n 196 0 (darg 0 [(4, 253), (0, b)]) [] g (g10, some (0, r11)) ∧ (o = (g10, some (0, r11))))) ∨ (a = 17 ∧ (∃ g12 r13, zr sv L n 197 0 (darg 0 [(4, 253), (0, w32 (b + 1))]) [] g (g12, some (0, r13)) ∧ (o = (g12, some (0, r13))))) ∨ (a = 18 ∧ (∃ g14 r15, zr sv L n 197 0 (darg 0 [(4, 253), (0, w32 (b + 1))]) [] g (g14, some (0, r15)) ∧ ((r15 = 0 ∧ (o = (g14, some (0, 0)))) ∨ (r15 ≠ 0 ∧ (∃ g17 r18, zr sv L n 184 0 (darg 0 [(4, 253), (6, 3), (0, 15)]) [] g14 (g17, some (0, r18)) ∧ ((r18 = 0 ∧ (o = (g17, some (0, 0)))) ∨ (r18 ≠ 0 ∧ (∃ g20 r21, zr sv L n 197 0 (darg 0 [(4, 253), (0, w32 (b + 2))]) [] g17 (g20, some (0, r21)) ∧ ((r21 = 0 ∧ (o = (g20, some (0, 0)))) ∨ (r21 ≠ 0 ∧ (o = (g20, some (0, 1))))))))))))) ∨ (a = 19 ∧ (∃ g23 r24, zr sv L n 195 0 (darg 0 [(4, 253), (0, b)]) [] g (g23, some (0, r24)) ∧ (o = (g23, some (0, r24))))) ∨ (a = 20 ∧ (∃ g25 r26, zr sv L n 175 0 (darg 0 [(4, 253), (0, w32 (b + 1)), (0, 1), (0, 99)]) [] g (g25, some (0, r26)) ∧ (o = (g25, some (0, r26))))) ∨ ((a < 14 ∨ 20 < a) ∧ (o = (g, some (0, 1)))) := by
  rw [zov h0, zov h1, zov h2] at h
  have h := zm zy_194 h 1 (q := (1, dset (dset (dset lf 2 (0, b)) 1 (0, a)) 0 (4, 253), [(0, a)], g)) rfl
  dsimp only at h
  rcases ztab_14_20 (z := a) with hz | hz | hz | hz | hz | hz | hz | hz
  · have h := ztabv h hz
    have h := zm zy_194 h 1 (q := (44, dset (dset (dset lf 2 (0, b)) 1 (0, a)) 0 (4, 253), [], g)) rfl
    dsimp only at h
    refine Or.inl ⟨hz, ?_⟩
    have h := zm zy_194 h 4 (q := (48, dset (dset (dset lf 2 (0, b)) 1 (0, a)) 0 (4, 253), [(0, w32 (b + 1)), (4, 253)], g)) rfl
    dsimp only at h
    obtain ⟨g1, r2, hk, h⟩ := zcallI zy_194 h rfl rfl zy_197 zk_197
    dsimp only at hk h
    refine ⟨g1, r2, hk, ?_⟩
    have h := zm zy_194 h 1 (q := (cond (crel .eq r2 0) 77 54, dset (dset (dset lf 2 (0, b)) 1 (0, a)) 0 (4, 253), [], g1)) rfl
    dsimp only at h
    rcases zif_eq h with ⟨hc3, h⟩ | ⟨hc3, h⟩
    · refine Or.inl ⟨hc3, ?_⟩
      have h := zm zy_194 h 1 (q := (78, dset (dset (dset lf 2 (0, b)) 1 (0, a)) 0 (4, 253), [(0, 0)], g1)) rfl
      dsimp only at h
      exact zret zy_194 h rfl rfl
    · refine Or.inr ⟨hc3, ?_⟩
      have h := zm zy_194 h 3 (q := (59, dset (dset (dset lf 2 (0, b)) 1 (0, a)) 0 (4, 253), [(0, 15), (6, 3), (4, 253)], g1)) rfl
      dsimp only at h
      obtain ⟨g4, r5, hk, h⟩ := zcallI zy_194 h rfl rfl zy_184 zk_184
      dsimp only at hk h
      refine ⟨g4, r5, hk, ?_⟩
      have h := zm zy_194 h 1 (q := (cond (crel .eq r5 0) 77 65, dset (dset (dset lf 2 (0, b)) 1 (0, a)) 0 (4, 253), [], g4)) rfl
      dsimp only at h
      rcases zif_eq h with ⟨hc6, h⟩ | ⟨hc6, h⟩
      · refine Or.inl ⟨hc6, ?_⟩
        have h := zm zy_194 h 1 (q := (78, dset (dset (dset lf 2 (0, b)) 1 (0, a)) 0 (4, 253), [(0, 0)], g4)) rfl
        dsimp only at h
        exact zret zy_194 h rfl rfl
      · refine Or.inr ⟨hc6, ?_⟩
        have h := zm zy_194 h 2 (q := (67, dset (dset (dset lf 2 (0, b)) 1 (0, a)) 0 (4, 253), [(0, b), (4, 253)], g4)) rfl
        dsimp only at h
        obtain ⟨g7, r8, hk, h⟩ := zcallI zy_194 h rfl rfl zy_196 zk_196
        dsimp only at hk h
        refine ⟨g7, r8, hk, ?_⟩
        have h := zm zy_194 h 1 (q := (cond (crel .eq r8 0) 77 73, dset (dset (dset lf 2 (0, b)) 1 (0, a)) 0 (4, 253), [], g7)) rfl
        dsimp only at h
        rcases zif_eq h with ⟨hc9, h⟩ | ⟨hc9, h⟩
        · refine Or.inl ⟨hc9, ?_⟩
          have h := zm zy_194 h 1 (q := (78, dset (dset (dset lf 2 (0, b)) 1 (0, a)) 0 (4, 253), [(0, 0)], g7)) rfl
          dsimp only at h
          exact zret zy_194 h rfl rfl
        · refine Or.inr ⟨hc9, ?_⟩
          have h := zm zy_194 h 2 (q := (78, dset (dset (dset lf 2 (0, b)) 1 (0, a)) 0 (4, 253), [(0, 1)], g7)) rfl
          dsimp only at h
          exact zret zy_194 h rfl rfl
  · have h := ztabv h hz
    have h := zm zy_194 h 1 (q := (147, dset (dset (dset lf 2 (0, b)) 1 (0, a)) 0 (4, 253), [], g)) rfl
    dsimp only at h
    refine Or.inr (Or.inl ⟨hz, ?_⟩)
    have h := zm zy_194 h 1 (q := (148, dset (dset (dset lf 2 (0, b)) 1 (0, a)) 0 (4, 253), [(0, 1)], g)) rfl
    dsimp only at h
    exact zret zy_194 h rfl rfl
  · have h := ztabv h hz
    have h := zm zy_194 h 1 (q := (116, dset (dset (dset lf 2 (0, b)) 1 (0, a)) 0 (4, 253), [], g)) rfl
    dsimp only at h
    refine Or.inr (Or.inr (Or.inl ⟨hz, ?_⟩))
    have h := zm zy_194 h 2 (q := (118, dset (dset (dset lf 2 (0, b)) 1 (0, a)) 0 (4, 253), [(0, b), (4, 253)], g)) rfl
    dsimp only at h
    obtain ⟨g10, r11, hk, h⟩ := zcallI zy_194 h rfl rfl zy_196 zk_196
    dsimp only at hk h
    refine ⟨g10, r11, hk, ?_⟩
    exact zret zy_194 h rfl rfl
  · have h := ztabv h hz
    have h := zm zy_194 h 1 (q := (122, dset (dset (dset lf 2 (0, b)) 1 (0, a)) 0 (4, 253), [], g)) rfl
    dsimp only at h
    refine Or.inr (Or.inr (Or.inr (Or.inl ⟨hz, ?_⟩)))
    have h := zm zy_194 h 4 (q := (126, dset (dset (dset lf 2 (0, b)) 1 (0, a)) 0 (4, 253), [(0, w32 (b + 1)), (4, 253)], g)) rfl
    dsimp only at h
    obtain ⟨g12, r13, hk, h⟩ := zcallI zy_194 h rfl rfl zy_197 zk_197
    dsimp only at hk h
    refine ⟨g12, r13, hk, ?_⟩
    exact zret zy_194 h rfl rfl
  · have h := ztabv h hz
    have h := zm zy_194 h 1 (q := (79, dset (dset (dset lf 2 (0, b)) 1 (0, a)) 0 (4, 253), [], g)) rfl
    dsimp only at h
    refine Or.inr (Or.inr (Or.inr (Or.inr (Or.inl ⟨hz, ?_⟩))))
    have h := zm zy_194 h 4 (q := (83, dset (dset (dset lf 2 (0, b)) 1 (0, a)) 0 (4, 253), [(0, w32 (b + 1)), (4, 253)], g)) rfl
    dsimp only at h
    obtain ⟨g14, r15, hk, h⟩ := zcallI zy_194 h rfl rfl zy_197 zk_197
    dsimp only at hk h
    refine ⟨g14, r15, hk, ?_⟩
    have h := zm zy_194 h 1 (q := (cond (crel .eq r15 0) 114 89, dset (dset (dset lf 2 (0, b)) 1 (0, a)) 0 (4, 253), [], g14)) rfl
    dsimp only at h
    rcases zif_eq h with ⟨hc16, h⟩ | ⟨hc16, h⟩
    · refine Or.inl ⟨hc16, ?_⟩
      have h := zm zy_194 h 1 (q := (115, dset (dset (dset lf 2 (0, b)) 1 (0, a)) 0 (4, 253), [(0, 0)], g14)) rfl
      dsimp only at h
      exact zret zy_194 h rfl rfl
    · refine Or.inr ⟨hc16, ?_⟩
      have h := zm zy_194 h 3 (q := (94, dset (dset (dset lf 2 (0, b)) 1 (0, a)) 0 (4, 253), [(0, 15), (6, 3), (4, 253)], g14)) rfl
      dsimp only at h
      obtain ⟨g17, r18, hk, h⟩ := zcallI zy_194 h rfl rfl zy_184 zk_184
      dsimp only at hk h
      refine ⟨g17, r18, hk, ?_⟩
      have h := zm zy_194 h 1 (q := (cond (crel .eq r18 0) 114 100, dset (dset (dset lf 2 (0, b)) 1 (0, a)) 0 (4, 253), [], g17)) rfl
      dsimp only at h
      rcases zif_eq h with ⟨hc19, h⟩ | ⟨hc19, h⟩
      · refine Or.inl ⟨hc19, ?_⟩
        have h := zm zy_194 h 1 (q := (115, dset (dset (dset lf 2 (0, b)) 1 (0, a)) 0 (4, 253), [(0, 0)], g17)) rfl
        dsimp only at h
        exact zret zy_194 h rfl rfl
      · refine Or.inr ⟨hc19, ?_⟩
        have h := zm zy_194 h 4 (q := (104, dset (dset (dset lf 2 (0, b)) 1 (0, a)) 0 (4, 253), [(0, w32 (b + 2)), (4, 253)], g17)) rfl
        dsimp only at h
        obtain ⟨g20, r21, hk, h⟩ := zcallI zy_194 h rfl rfl zy_197 zk_197
        dsimp only at hk h
        refine ⟨g20, r21, hk, ?_⟩
        have h := zm zy_194 h 1 (q := (cond (crel .eq r21 0) 114 110, dset (dset (dset lf 2 (0, b)) 1 (0, a)) 0 (4, 253), [], g20)) rfl
        dsimp only at h
        rcases zif_eq h with ⟨hc22, h⟩ | ⟨hc22, h⟩
        · refine Or.inl ⟨hc22, ?_⟩
          have h := zm zy_194 h 1 (q := (115, dset (dset (dset lf 2 (0, b)) 1 (0, a)) 0 (4, 253), [(0, 0)], g20)) rfl
          dsimp only at h
          exact zret zy_194 h rfl rfl
        · refine Or.inr ⟨hc22, ?_⟩
          have h := zm zy_194 h 2 (q := (115, dset (dset (dset lf 2 (0, b)) 1 (0, a)) 0 (4, 253), [(0, 1)], g20)) rfl
          dsimp only at h
          exact zret zy_194 h rfl rfl
  · have h := ztabv h hz
    have h := zm zy_194 h 1 (q := (130, dset (dset (dset lf 2 (0, b)) 1 (0, a)) 0 (4, 253), [], g)) rfl
    dsimp only at h
    refine Or.inr (Or.inr (Or.inr (Or.inr (Or.inr (Or.inl ⟨hz, ?_⟩)))))
    have h := zm zy_194 h 2 (q := (132, dset (dset (dset lf 2 (0, b)) 1 (0, a)) 0 (4, 253), [(0, b), (4, 253)], g)) rfl
    dsimp only at h
    obtain ⟨g23, r24, hk, h⟩ := zcallI zy_194 h rfl rfl zy_195 zk_195
    dsimp only at hk h
    refine ⟨g23, r24, hk, ?_⟩
    exact zret zy_194 h rfl rfl
  · have h := ztabv h hz
    have h := zm zy_194 h 1 (q := (136, dset (dset (dset lf 2 (0, b)) 1 (0, a)) 0 (4, 253), [], g)) rfl
    dsimp only at h
    refine Or.inr (Or.inr (Or.inr (Or.inr (Or.inr (Or.inr (Or.inl ⟨hz, ?_⟩))))))
    have h := zm zy_194 h 6 (q := (143, dset (dset (dset lf 2 (0, b)) 1 (0, a)) 0 (4, 253), [(0, 99), (0, 1), (0, w32 (b + 1)), (4, 253)], g)) rfl
    dsimp only at h
    obtain ⟨g25, r26, hk, h⟩ := zcallI zy_194 h rfl rfl zy_175 zk_175
    dsimp only at hk h
    refine ⟨g25, r26, hk, ?_⟩
    exact zret zy_194 h rfl rfl
  · have h := ztabd h zy_194 rfl hz (by decide)
    refine Or.inr (Or.inr (Or.inr (Or.inr (Or.inr (Or.inr (Or.inr (⟨hz, ?_⟩)))))))
    have h := zm zy_194 h 1 (q := (148, dset (dset (dset lf 2 (0, b)) 1 (0, a)) 0 (4, 253), [(0, 1)], g)) rfl
    dsimp only at h
    exact zret zy_194 h rfl rfl
theorem t_takeTr0 {sv : Nat → Int32} {L n : Nat} {lf : dlf} {g : cg} {o : cg × Option cv} {a : Int} (h : zr sv L n 65 0 lf [] g o) (h0 : lf 0 = (4, 90)) (h1 : lf 1 = (0, a)) : ∃ g1, zr sv L n 34 0 (darg 0 [(4, 50)]) [] g (g1, none) ∧ (∃ g2, zr sv L n 35 0 (darg 0 [(4, 88), (0, a)]) [] (cup g1 90 6 0) (g2, none) ∧ (∃ lf'3, lf'3 0 = (4, 90) ∧ lf'3 2 = (0, 0) ∧ zr sv L n 65 22 lf'3 [] g2 o)) := by
  rw [zov h0, zov h1] at h
  have h := zm zy_65 h 2 (q := (4, dset (dset lf 1 (0, a)) 0 (4, 90), [(4, 50)], g)) rfl
  dsimp only at h
  obtain ⟨g1, hk, h⟩ := zcallV zy_65 h rfl rfl zy_34 zk_34
  dsimp only at hk h
  refine ⟨g1, hk, ?_⟩
  have h := zm zy_65 h 6 (q := (17, dset (dset lf 1 (0, a)) 0 (4, 90), [(0, a), (4, 88)], cup g1 90 6 0)) rfl
  dsimp only at h
  obtain ⟨g2, hk, h⟩ := zcallV zy_65 h rfl rfl zy_35 zk_35
  dsimp only at hk h
  refine ⟨g2, hk, ?_⟩
  have h := zm zy_65 h 2 (q := (22, dset (dset (dset lf 1 (0, a)) 0 (4, 90)) 2 (0, 0), [], g2)) rfl
  dsimp only at h
  exact ⟨_, rfl, rfl, h⟩
theorem t_takeTr22 {sv : Nat → Int32} {L n : Nat} {lf : dlf} {g : cg} {o : cg × Option cv} {b : Int} (h : zr sv L (n + 1) 65 22 lf [] g o) (h0 : lf 0 = (4, 90)) (h2 : lf 2 = (0, b)) : (900 ≤ b ∧ (∃ lf'2, lf'2 0 = (4, 90) ∧ zr sv L n 65 75 lf'2 [] g o)) ∨ (b < 900 ∧ ((g 88 4 = 0 ∧ (∃ lf'4, lf'4 0 = (4, 90) ∧ zr sv L n 65 75 lf'4 [] g o)) ∨ (g 88 4 ≠ 0 ∧ ((g 88 7 ≠ 23 ∧ (∃ g6 r7, zr sv L n 67 0 (darg 0 [(4, 90)]) [] g (g6, some (0, r7)) ∧ ((r7 ≠ 0 ∧ (∃ lf'9, lf'9 0 = (4, 90) ∧ lf'9 2 = (0, w32 (b + 1)) ∧ zr sv L n 65 22 lf'9 [] g6 o)) ∨ (r7 = 0 ∧ (o = (g6, some (0, 0))))))) ∨ (g 88 7 = 23 ∧ (∃ g10 r11, zr sv L n 66 0 (darg 0 [(4, 90)]) [] g (g10, some (0, r11)) ∧ ((r11 ≠ 0 ∧ (∃ lf'13, lf'13 0 = (4, 90) ∧ lf'13 2 = (0, w32 (b + 1)) ∧ zr sv L n 65 22 lf'13 [] g10 o)) ∨ (r11 = 0 ∧ (o = (g10, some (0, 0))))))))))) := by
  rw [zov h0, zov h2] at h
  have h := zm1 zy_65 h 2 (q := (cond (crel .ge b 900) 75 29, dset (dset lf 2 (0, b)) 0 (4, 90), [], g)) rfl
  dsimp only at h
  rcases zif_ge h with ⟨hc1, h⟩ | ⟨hc1, h⟩
  · refine Or.inl ⟨hc1, ?_⟩
    exact ⟨_, rfl, h⟩
  · refine Or.inr ⟨hc1, ?_⟩
    have h := zm zy_65 h 4 (q := (cond (crel .eq (g 88 4) 0) 75 39, dset (dset lf 2 (0, b)) 0 (4, 90), [], g)) rfl
    dsimp only at h
    rcases zif_eq h with ⟨hc3, h⟩ | ⟨hc3, h⟩
    · refine Or.inl ⟨hc3, ?_⟩
      exact ⟨_, rfl, h⟩
    · refine Or.inr ⟨hc3, ?_⟩
      have h := zm zy_65 h 5 (q := (cond (crel .ne (g 88 7) 23) 58 51, dset (dset lf 2 (0, b)) 0 (4, 90), [], g)) rfl
      dsimp only at h
      rcases zif_ne h with ⟨hc5, h⟩ | ⟨hc5, h⟩
      · refine Or.inl ⟨hc5, ?_⟩
        have h := zm zy_65 h 1 (q := (59, dset (dset lf 2 (0, b)) 0 (4, 90), [(4, 90)], g)) rfl
        dsimp only at h
        obtain ⟨g6, r7, hk, h⟩ := zcallI zy_65 h rfl rfl zy_67 zk_67
        dsimp only at hk h
        refine ⟨g6, r7, hk, ?_⟩
        have h := zm zy_65 h 3 (q := (cond (crel .ne r7 0) 69 67, dset (dset (dset lf 2 (0, b)) 0 (4, 90)) 3 (0, r7), [], g6)) rfl
        dsimp only at h
        rcases zif_ne h with ⟨hc8, h⟩ | ⟨hc8, h⟩
        · refine Or.inl ⟨hc8, ?_⟩
          have h := zm zy_65 h 2 (q := (22, dset (dset (dset (dset lf 2 (0, b)) 0 (4, 90)) 3 (0, r7)) 2 (0, w32 (b + 1)), [], g6)) rfl
          dsimp only at h
          exact ⟨_, rfl, rfl, h⟩
        · refine Or.inr ⟨hc8, ?_⟩
          have h := zm zy_65 h 1 (q := (68, dset (dset (dset lf 2 (0, b)) 0 (4, 90)) 3 (0, r7), [(0, 0)], g6)) rfl
          dsimp only at h
          exact zret zy_65 h rfl rfl
      · refine Or.inr ⟨hc5, ?_⟩
        have h := zm zy_65 h 1 (q := (52, dset (dset lf 2 (0, b)) 0 (4, 90), [(4, 90)], g)) rfl
        dsimp only at h
        obtain ⟨g10, r11, hk, h⟩ := zcallI zy_65 h rfl rfl zy_66 zk_66
        dsimp only at hk h
        refine ⟨g10, r11, hk, ?_⟩
        have h := zm zy_65 h 4 (q := (cond (crel .ne r11 0) 69 67, dset (dset (dset lf 2 (0, b)) 0 (4, 90)) 3 (0, r11), [], g10)) rfl
        dsimp only at h
        rcases zif_ne h with ⟨hc12, h⟩ | ⟨hc12, h⟩
        · refine Or.inl ⟨hc12, ?_⟩
          have h := zm zy_65 h 2 (q := (22, dset (dset (dset (dset lf 2 (0, b)) 0 (4, 90)) 3 (0, r11)) 2 (0, w32 (b + 1)), [], g10)) rfl
          dsimp only at h
          exact ⟨_, rfl, rfl, h⟩
        · refine Or.inr ⟨hc12, ?_⟩
          have h := zm zy_65 h 1 (q := (68, dset (dset (dset lf 2 (0, b)) 0 (4, 90)) 3 (0, r11), [(0, 0)], g10)) rfl
          dsimp only at h
          exact zret zy_65 h rfl rfl
theorem t_takeTr75 {sv : Nat → Int32} {L n : Nat} {lf : dlf} {g : cg} {o : cg × Option cv} (h : zr sv L n 65 75 lf [] g o) (h0 : lf 0 = (4, 90)) : (g 90 6 ≤ 0 ∧ (o = (cup g 50 0 1, some (0, 1)))) ∨ (0 < g 90 6 ∧ (∃ g2 r3, zr sv L n 39 0 (darg 0 [(4, 88), (0, 2)]) [] g (g2, some (0, r3)) ∧ (o = (g2, some (0, r3))))) := by
  rw [zov h0] at h
  have h := zm zy_65 h 3 (q := (cond (crel .le (g 90 6) 0) 91 82, dset lf 0 (4, 90), [], g)) rfl
  dsimp only at h
  rcases zif_le h with ⟨hc1, h⟩ | ⟨hc1, h⟩
  · refine Or.inl ⟨hc1, ?_⟩
    have h := zm zy_65 h 5 (q := (100, dset lf 0 (4, 90), [(0, 1)], cup g 50 0 1)) rfl
    dsimp only at h
    exact zret zy_65 h rfl rfl
  · refine Or.inr ⟨hc1, ?_⟩
    have h := zm zy_65 h 3 (q := (87, dset lf 0 (4, 90), [(0, 2), (4, 88)], g)) rfl
    dsimp only at h
    obtain ⟨g2, r3, hk, h⟩ := zcallI zy_65 h rfl rfl zy_39 zk_39
    dsimp only at hk h
    refine ⟨g2, r3, hk, ?_⟩
    exact zret zy_65 h rfl rfl
theorem m_stp0 {sv : Nat → Int32} {L n : Nat} {lf : dlf} {g : cg} {o : cg × Option cv} (h : zr sv L n 193 0 lf [] g o) (h0 : lf 0 = (4, 253)) : ∃ g1 r2, zr sv L n 172 0 (darg 0 [(4, 253), (6, 3)]) [] g (g1, some (0, r2)) ∧ ((r2 = 19 ∧ (∃ lf'4, lf'4 0 = (4, 253) ∧ lf'4 1 = (0, r2) ∧ lf'4 2 = (0, g1 254 2983) ∧ lf'4 3 = (0, w32 (3236 + (w32 (8 * (g1 254 2983))))) ∧ lf'4 4 = (0, 1) ∧ zr sv L n 193 44 lf'4 [] g1 o)) ∨ (r2 ≠ 19 ∧ ((r2 ≠ 20 ∧ (∃ lf'6, lf'6 0 = (4, 253) ∧ lf'6 1 = (0, r2) ∧ lf'6 2 = (0, g1 254 2983) ∧ lf'6 3 = (0, w32 (3236 + (w32 (8 * (g1 254 2983))))) ∧ lf'6 4 = (0, 0) ∧ zr sv L n 193 44 lf'6 [] g1 o)) ∨ (r2 = 20 ∧ (∃ lf'7, lf'7 0 = (4, 253) ∧ lf'7 1 = (0, r2) ∧ lf'7 2 = (0, g1 254 2983) ∧ lf'7 3 = (0, w32 (3236 + (w32 (8 * (g1 254 2983))))) ∧ lf'7 4 = (0, 1) ∧ zr sv L n 193 44 lf'7 [] g1 o))))) := by
  rw [zov h0] at h
  have h := zm zy_193 h 2 (q := (3, dset lf 0 (4, 253), [(6, 3), (4, 253)], g)) rfl
  dsimp only at h
  obtain ⟨g1, r2, hk, h⟩ := zcallI zy_193 h rfl rfl zy_172 zk_172
  dsimp only at hk h
  refine ⟨g1, r2, hk, ?_⟩
  have h := zm zy_193 h 15 (q := (cond (crel .eq r2 19) 37 31, dset (dset (dset (dset lf 0 (4, 253)) 1 (0, r2)) 2 (0, g1 254 2983)) 3 (0, w32 (3236 + (w32 (8 * (g1 254 2983))))), [], g1)) rfl
  dsimp only at h
  rcases zif_eq h with ⟨hc3, h⟩ | ⟨hc3, h⟩
  · refine Or.inl ⟨hc3, ?_⟩
    have h := zm zy_193 h 3 (q := (44, dset (dset (dset (dset (dset lf 0 (4, 253)) 1 (0, r2)) 2 (0, g1 254 2983)) 3 (0, w32 (3236 + (w32 (8 * (g1 254 2983)))))) 4 (0, 1), [], g1)) rfl
    dsimp only at h
    exact ⟨_, rfl, rfl, rfl, rfl, rfl, h⟩
  · refine Or.inr ⟨hc3, ?_⟩
    have h := zm zy_193 h 3 (q := (cond (crel .ne r2 20) 41 37, dset (dset (dset (dset lf 0 (4, 253)) 1 (0, r2)) 2 (0, g1 254 2983)) 3 (0, w32 (3236 + (w32 (8 * (g1 254 2983))))), [], g1)) rfl
    dsimp only at h
    rcases zif_ne h with ⟨hc5, h⟩ | ⟨hc5, h⟩
    · refine Or.inl ⟨hc5, ?_⟩
      have h := zm zy_193 h 2 (q := (44, dset (dset (dset (dset (dset lf 0 (4, 253)) 1 (0, r2)) 2 (0, g1 254 2983)) 3 (0, w32 (3236 + (w32 (8 * (g1 254 2983)))))) 4 (0, 0), [], g1)) rfl
      dsimp only at h
      exact ⟨_, rfl, rfl, rfl, rfl, rfl, h⟩
    · refine Or.inr ⟨hc5, ?_⟩
      have h := zm zy_193 h 3 (q := (44, dset (dset (dset (dset (dset lf 0 (4, 253)) 1 (0, r2)) 2 (0, g1 254 2983)) 3 (0, w32 (3236 + (w32 (8 * (g1 254 2983)))))) 4 (0, 1), [], g1)) rfl
      dsimp only at h
      exact ⟨_, rfl, rfl, rfl, rfl, rfl, h⟩
theorem m_stp44 {sv : Nat → Int32} {L n : Nat} {lf : dlf} {g : cg} {o : cg × Option cv} {a b c d : Int} (h : zr sv L n 193 44 lf [] g o) (h0 : lf 0 = (4, 253)) (h1 : lf 1 = (0, a)) (h2 : lf 2 = (0, b)) (h3 : lf 3 = (0, c)) (h4 : lf 4 = (0, d)) : (a < 14 ∧ (∃ g2 r3, zr sv L n 173 0 (darg 0 [(4, 253), (0, 2)]) [] g (g2, some (0, r3)) ∧ (o = (g2, some (0, r3))))) ∨ (14 ≤ a ∧ ((22 < a ∧ (∃ g5 r6, zr sv L n 173 0 (darg 0 [(4, 253), (0, 2)]) [] g (g5, some (0, r6)) ∧ (o = (g5, some (0, r6))))) ∨ (a ≤ 22 ∧ ((a = 15 ∧ (∃ g8 r9, zr sv L n 173 0 (darg 0 [(4, 253), (0, 2)]) [] g (g8, some (0, r9)) ∧ (o = (g8, some (0, r9))))) ∨ (a ≠ 15 ∧ ((a ≠ 21 ∧ ((g 253 23 ≠ 30 ∧ ((d = 0 ∧ (∃ lf'15, lf'15 0 = (4, 253) ∧ lf'15 1 = (0, a) ∧ lf'15 2 = (0, b) ∧ lf'15 3 = (0, c) ∧ lf'15 4 = (0, d) ∧ lf'15 5 = (0, 1) ∧ zr sv L n 193 153 lf'15 [] (cup (cup g 253 23 (w32 ((g 253 23) + 1))) 254 ((c).toNat) a) o)) ∨ (d ≠ 0 ∧ ((g 253 22 ≠ 3 ∧ (∃ lf'18, lf'18 0 = (4, 253) ∧ lf'18 1 = (0, a) ∧ lf'18 2 = (0, b) ∧ lf'18 3 = (0, c) ∧ lf'18 4 = (0, d) ∧ lf'18 5 = (0, 1) ∧ zr sv L n 193 153 lf'18 [] (cup (cup g 253 23 (w32 ((g 253 23) + 1))) 254 ((c).toNat) a) o)) ∨ (g 253 22 = 3 ∧ (∃ g19 r20, zr sv L n 173 0 (darg 0 [(4, 253), (0, 7)]) [] g (g19, some (0, r20)) ∧ (o = (g19, some (0, r20))))))))) ∨ (g 253 23 = 30 ∧ (∃ g21 r22, zr sv L n 173 0 (darg 0 [(4, 253), (0, 6)]) [] g (g21, some (0, r22)) ∧ (o = (g21, some (0, r22))))))) ∨ (a = 21 ∧ ((g 253 22 ≠ 0 ∧ ((d = 0 ∧ (∃ lf'27, lf'27 0 = (4, 253) ∧ lf'27 1 = (0, a) ∧ lf'27 2 = (0, b) ∧ lf'27 3 = (0, c) ∧ lf'27 4 = (0, d) ∧ lf'27 5 = (0, 1) ∧ zr sv L n 193 153 lf'27 [] (cup (cup g 253 23 (w32 ((g 253 23) + 0))) 254 ((c).toNat) a) o)) ∨ (d ≠ 0 ∧ ((g 253 22 ≠ 3 ∧ (∃ lf'30, lf'30 0 = (4, 253) ∧ lf'30 1 = (0, a) ∧ lf'30 2 = (0, b) ∧ lf'30 3 = (0, c) ∧ lf'30 4 = (0, d) ∧ lf'30 5 = (0, 1) ∧ zr sv L n 193 153 lf'30 [] (cup (cup g 253 23 (w32 ((g 253 23) + 0))) 254 ((c).toNat) a) o)) ∨ (g 253 22 = 3 ∧ (∃ g31 r32, zr sv L n 173 0 (darg 0 [(4, 253), (0, 7)]) [] g (g31, some (0, r32)) ∧ (o = (g31, some (0, r32))))))))) ∨ (g 253 22 = 0 ∧ (∃ g33 r34, zr sv L n 173 0 (darg 0 [(4, 253), (0, 2)]) [] g (g33, some (0, r34)) ∧ (o = (g33, some (0, r34))))))))))))) := by
  rw [zov h0, zov h1, zov h2, zov h3, zov h4] at h
  have h := zm zy_193 h 3 (q := (cond (crel .lt a 14) 75 50, dset (dset (dset (dset (dset lf 4 (0, d)) 3 (0, c)) 2 (0, b)) 1 (0, a)) 0 (4, 253), [], g)) rfl
  dsimp only at h
  rcases zif_lt h with ⟨hc1, h⟩ | ⟨hc1, h⟩
  · refine Or.inl ⟨hc1, ?_⟩
    have h := zm zy_193 h 2 (q := (77, dset (dset (dset (dset (dset lf 4 (0, d)) 3 (0, c)) 2 (0, b)) 1 (0, a)) 0 (4, 253), [(0, 2), (4, 253)], g)) rfl
    dsimp only at h
    obtain ⟨g2, r3, hk, h⟩ := zcallI zy_193 h rfl rfl zy_173 zk_173
    dsimp only at hk h
    refine ⟨g2, r3, hk, ?_⟩
    exact zret zy_193 h rfl rfl
  · refine Or.inr ⟨hc1, ?_⟩
    have h := zm zy_193 h 3 (q := (cond (crel .gt a 22) 75 56, dset (dset (dset (dset (dset lf 4 (0, d)) 3 (0, c)) 2 (0, b)) 1 (0, a)) 0 (4, 253), [], g)) rfl
    dsimp only at h
    rcases zif_gt h with ⟨hc4, h⟩ | ⟨hc4, h⟩
    · refine Or.inl ⟨hc4, ?_⟩
      have h := zm zy_193 h 2 (q := (77, dset (dset (dset (dset (dset lf 4 (0, d)) 3 (0, c)) 2 (0, b)) 1 (0, a)) 0 (4, 253), [(0, 2), (4, 253)], g)) rfl
      dsimp only at h
      obtain ⟨g5, r6, hk, h⟩ := zcallI zy_193 h rfl rfl zy_173 zk_173
      dsimp only at hk h
      refine ⟨g5, r6, hk, ?_⟩
      exact zret zy_193 h rfl rfl
    · refine Or.inr ⟨hc4, ?_⟩
      have h := zm zy_193 h 3 (q := (cond (crel .eq a 15) 75 62, dset (dset (dset (dset (dset lf 4 (0, d)) 3 (0, c)) 2 (0, b)) 1 (0, a)) 0 (4, 253), [], g)) rfl
      dsimp only at h
      rcases zif_eq h with ⟨hc7, h⟩ | ⟨hc7, h⟩
      · refine Or.inl ⟨hc7, ?_⟩
        have h := zm zy_193 h 2 (q := (77, dset (dset (dset (dset (dset lf 4 (0, d)) 3 (0, c)) 2 (0, b)) 1 (0, a)) 0 (4, 253), [(0, 2), (4, 253)], g)) rfl
        dsimp only at h
        obtain ⟨g8, r9, hk, h⟩ := zcallI zy_193 h rfl rfl zy_173 zk_173
        dsimp only at hk h
        refine ⟨g8, r9, hk, ?_⟩
        exact zret zy_193 h rfl rfl
      · refine Or.inr ⟨hc7, ?_⟩
        have h := zm zy_193 h 3 (q := (cond (crel .ne a 21) 81 68, dset (dset (dset (dset (dset lf 4 (0, d)) 3 (0, c)) 2 (0, b)) 1 (0, a)) 0 (4, 253), [], g)) rfl
        dsimp only at h
        rcases zif_ne h with ⟨hc10, h⟩ | ⟨hc10, h⟩
        · refine Or.inl ⟨hc10, ?_⟩
          have h := zm zy_193 h 3 (q := (cond (crel .eq a 21) 103 87, dset (dset (dset (dset (dset lf 4 (0, d)) 3 (0, c)) 2 (0, b)) 1 (0, a)) 0 (4, 253), [], g)) rfl
          dsimp only at h
          rcases zif_eq h with ⟨hc11, h⟩ | ⟨hc11, h⟩
          · exact absurd hc11 (by omega)
          · have h := zm zy_193 h 4 (q := (cond (crel .ne (g 253 23) 30) 103 96, dset (dset (dset (dset (dset lf 4 (0, d)) 3 (0, c)) 2 (0, b)) 1 (0, a)) 0 (4, 253), [], g)) rfl
            dsimp only at h
            rcases zif_ne h with ⟨hc12, h⟩ | ⟨hc12, h⟩
            · refine Or.inl ⟨hc12, ?_⟩
              have h := zm zy_193 h 2 (q := (cond (crel .eq d 0) 123 108, dset (dset (dset (dset (dset lf 4 (0, d)) 3 (0, c)) 2 (0, b)) 1 (0, a)) 0 (4, 253), [], g)) rfl
              dsimp only at h
              rcases zif_eq h with ⟨hc13, h⟩ | ⟨hc13, h⟩
              · refine Or.inl ⟨hc13, ?_⟩
                have h := zm zy_193 h 6 (q := (cond (crel .ne a 21) 138 134, dset (dset (dset (dset (dset lf 4 (0, d)) 3 (0, c)) 2 (0, b)) 1 (0, a)) 0 (4, 253), [(0, g 253 23), (4, 253)], g)) rfl
                dsimp only at h
                rcases zif_ne h with ⟨hc14, h⟩ | ⟨hc14, h⟩
                · have h := zm zy_193 h 10 (q := (153, dset (dset (dset (dset (dset (dset lf 4 (0, d)) 3 (0, c)) 2 (0, b)) 1 (0, a)) 0 (4, 253)) 5 (0, 1), [], cup (cup g 253 23 (w32 ((g 253 23) + 1))) 254 ((c).toNat) a)) rfl
                  dsimp only at h
                  exact ⟨_, rfl, rfl, rfl, rfl, rfl, rfl, h⟩
                · exact absurd hc14 (by omega)
              · refine Or.inr ⟨hc13, ?_⟩
                have h := zm zy_193 h 4 (q := (cond (crel .ne (g 253 22) 3) 123 116, dset (dset (dset (dset (dset lf 4 (0, d)) 3 (0, c)) 2 (0, b)) 1 (0, a)) 0 (4, 253), [], g)) rfl
                dsimp only at h
                rcases zif_ne h with ⟨hc16, h⟩ | ⟨hc16, h⟩
                · refine Or.inl ⟨hc16, ?_⟩
                  have h := zm zy_193 h 6 (q := (cond (crel .ne a 21) 138 134, dset (dset (dset (dset (dset lf 4 (0, d)) 3 (0, c)) 2 (0, b)) 1 (0, a)) 0 (4, 253), [(0, g 253 23), (4, 253)], g)) rfl
                  dsimp only at h
                  rcases zif_ne h with ⟨hc17, h⟩ | ⟨hc17, h⟩
                  · have h := zm zy_193 h 10 (q := (153, dset (dset (dset (dset (dset (dset lf 4 (0, d)) 3 (0, c)) 2 (0, b)) 1 (0, a)) 0 (4, 253)) 5 (0, 1), [], cup (cup g 253 23 (w32 ((g 253 23) + 1))) 254 ((c).toNat) a)) rfl
                    dsimp only at h
                    exact ⟨_, rfl, rfl, rfl, rfl, rfl, rfl, h⟩
                  · exact absurd hc17 (by omega)
                · refine Or.inr ⟨hc16, ?_⟩
                  have h := zm zy_193 h 2 (q := (119, dset (dset (dset (dset (dset lf 4 (0, d)) 3 (0, c)) 2 (0, b)) 1 (0, a)) 0 (4, 253), [(0, 7), (4, 253)], g)) rfl
                  dsimp only at h
                  obtain ⟨g19, r20, hk, h⟩ := zcallI zy_193 h rfl rfl zy_173 zk_173
                  dsimp only at hk h
                  refine ⟨g19, r20, hk, ?_⟩
                  exact zret zy_193 h rfl rfl
            · refine Or.inr ⟨hc12, ?_⟩
              have h := zm zy_193 h 2 (q := (99, dset (dset (dset (dset (dset lf 4 (0, d)) 3 (0, c)) 2 (0, b)) 1 (0, a)) 0 (4, 253), [(0, 6), (4, 253)], g)) rfl
              dsimp only at h
              obtain ⟨g21, r22, hk, h⟩ := zcallI zy_193 h rfl rfl zy_173 zk_173
              dsimp only at hk h
              refine ⟨g21, r22, hk, ?_⟩
              exact zret zy_193 h rfl rfl
        · refine Or.inr ⟨hc10, ?_⟩
          have h := zm zy_193 h 3 (q := (cond (crel .ne (g 253 22) 0) 81 75, dset (dset (dset (dset (dset lf 4 (0, d)) 3 (0, c)) 2 (0, b)) 1 (0, a)) 0 (4, 253), [], g)) rfl
          dsimp only at h
          rcases zif_ne h with ⟨hc23, h⟩ | ⟨hc23, h⟩
          · refine Or.inl ⟨hc23, ?_⟩
            have h := zm zy_193 h 3 (q := (cond (crel .eq a 21) 103 87, dset (dset (dset (dset (dset lf 4 (0, d)) 3 (0, c)) 2 (0, b)) 1 (0, a)) 0 (4, 253), [], g)) rfl
            dsimp only at h
            rcases zif_eq h with ⟨hc24, h⟩ | ⟨hc24, h⟩
            · have h := zm zy_193 h 2 (q := (cond (crel .eq d 0) 123 108, dset (dset (dset (dset (dset lf 4 (0, d)) 3 (0, c)) 2 (0, b)) 1 (0, a)) 0 (4, 253), [], g)) rfl
              dsimp only at h
              rcases zif_eq h with ⟨hc25, h⟩ | ⟨hc25, h⟩
              · refine Or.inl ⟨hc25, ?_⟩
                have h := zm zy_193 h 6 (q := (cond (crel .ne a 21) 138 134, dset (dset (dset (dset (dset lf 4 (0, d)) 3 (0, c)) 2 (0, b)) 1 (0, a)) 0 (4, 253), [(0, g 253 23), (4, 253)], g)) rfl
                dsimp only at h
                rcases zif_ne h with ⟨hc26, h⟩ | ⟨hc26, h⟩
                · exact absurd hc26 (by omega)
                · have h := zm zy_193 h 11 (q := (153, dset (dset (dset (dset (dset (dset lf 4 (0, d)) 3 (0, c)) 2 (0, b)) 1 (0, a)) 0 (4, 253)) 5 (0, 1), [], cup (cup g 253 23 (w32 ((g 253 23) + 0))) 254 ((c).toNat) a)) rfl
                  dsimp only at h
                  exact ⟨_, rfl, rfl, rfl, rfl, rfl, rfl, h⟩
              · refine Or.inr ⟨hc25, ?_⟩
                have h := zm zy_193 h 4 (q := (cond (crel .ne (g 253 22) 3) 123 116, dset (dset (dset (dset (dset lf 4 (0, d)) 3 (0, c)) 2 (0, b)) 1 (0, a)) 0 (4, 253), [], g)) rfl
                dsimp only at h
                rcases zif_ne h with ⟨hc28, h⟩ | ⟨hc28, h⟩
                · refine Or.inl ⟨hc28, ?_⟩
                  have h := zm zy_193 h 6 (q := (cond (crel .ne a 21) 138 134, dset (dset (dset (dset (dset lf 4 (0, d)) 3 (0, c)) 2 (0, b)) 1 (0, a)) 0 (4, 253), [(0, g 253 23), (4, 253)], g)) rfl
                  dsimp only at h
                  rcases zif_ne h with ⟨hc29, h⟩ | ⟨hc29, h⟩
                  · exact absurd hc29 (by omega)
                  · have h := zm zy_193 h 11 (q := (153, dset (dset (dset (dset (dset (dset lf 4 (0, d)) 3 (0, c)) 2 (0, b)) 1 (0, a)) 0 (4, 253)) 5 (0, 1), [], cup (cup g 253 23 (w32 ((g 253 23) + 0))) 254 ((c).toNat) a)) rfl
                    dsimp only at h
                    exact ⟨_, rfl, rfl, rfl, rfl, rfl, rfl, h⟩
                · refine Or.inr ⟨hc28, ?_⟩
                  have h := zm zy_193 h 2 (q := (119, dset (dset (dset (dset (dset lf 4 (0, d)) 3 (0, c)) 2 (0, b)) 1 (0, a)) 0 (4, 253), [(0, 7), (4, 253)], g)) rfl
                  dsimp only at h
                  obtain ⟨g31, r32, hk, h⟩ := zcallI zy_193 h rfl rfl zy_173 zk_173
                  dsimp only at hk h
                  refine ⟨g31, r32, hk, ?_⟩
                  exact zret zy_193 h rfl rfl
            · exact absurd hc24 (by omega)
          · refine Or.inr ⟨hc23, ?_⟩
            have h := zm zy_193 h 2 (q := (77, dset (dset (dset (dset (dset lf 4 (0, d)) 3 (0, c)) 2 (0, b)) 1 (0, a)) 0 (4, 253), [(0, 2), (4, 253)], g)) rfl
            dsimp only at h
            obtain ⟨g33, r34, hk, h⟩ := zcallI zy_193 h rfl rfl zy_173 zk_173
            dsimp only at hk h
            refine ⟨g33, r34, hk, ?_⟩
            exact zret zy_193 h rfl rfl
theorem m_stp153 {sv : Nat → Int32} {L n : Nat} {lf : dlf} {g : cg} {o : cg × Option cv} {a b c d e : Int} (h : zr sv L (n + 1) 193 153 lf [] g o) (h0 : lf 0 = (4, 253)) (h1 : lf 1 = (0, a)) (h2 : lf 2 = (0, b)) (h3 : lf 3 = (0, c)) (h4 : lf 4 = (0, d)) (h5 : lf 5 = (0, e)) : (8 ≤ e ∧ (∃ lf'2, lf'2 0 = (4, 253) ∧ lf'2 1 = (0, a) ∧ lf'2 2 = (0, b) ∧ lf'2 3 = (0, c) ∧ lf'2 4 = (0, d) ∧ zr sv L n 193 176 lf'2 [] g o)) ∨ (e < 8 ∧ (∃ lf'3, lf'3 0 = (4, 253) ∧ lf'3 1 = (0, a) ∧ lf'3 2 = (0, b) ∧ lf'3 3 = (0, c) ∧ lf'3 4 = (0, d) ∧ lf'3 5 = (0, w32 (e + 1)) ∧ zr sv L n 193 153 lf'3 [] (cup g 254 ((w32 (c + e)).toNat) 0) o)) := by
  rw [zov h0, zov h1, zov h2, zov h3, zov h4, zov h5] at h
  have h := zm1 zy_193 h 2 (q := (cond (crel .ge e 8) 176 160, dset (dset (dset (dset (dset (dset lf 5 (0, e)) 4 (0, d)) 3 (0, c)) 2 (0, b)) 1 (0, a)) 0 (4, 253), [], g)) rfl
  dsimp only at h
  rcases zif_ge h with ⟨hc1, h⟩ | ⟨hc1, h⟩
  · refine Or.inl ⟨hc1, ?_⟩
    exact ⟨_, rfl, rfl, rfl, rfl, rfl, h⟩
  · refine Or.inr ⟨hc1, ?_⟩
    have h := zm zy_193 h 9 (q := (153, dset (dset (dset (dset (dset (dset (dset lf 5 (0, e)) 4 (0, d)) 3 (0, c)) 2 (0, b)) 1 (0, a)) 0 (4, 253)) 5 (0, w32 (e + 1)), [], cup g 254 ((w32 (c + e)).toNat) 0)) rfl
    dsimp only at h
    exact ⟨_, rfl, rfl, rfl, rfl, rfl, rfl, h⟩
theorem m_stp176 {sv : Nat → Int32} {L n : Nat} {lf : dlf} {g : cg} {o : cg × Option cv} {a b c d : Int} (h : zr sv L n 193 176 lf [] g o) (h0 : lf 0 = (4, 253)) (h1 : lf 1 = (0, a)) (h2 : lf 2 = (0, b)) (h3 : lf 3 = (0, c)) (h4 : lf 4 = (0, d)) : ∃ g1, zr sv L n 166 0 (darg 0 [(4, 253)]) [] (cup g 254 2983 (w32 ((g 254 2983) + 1))) (g1, none) ∧ (∃ g2 r3, zr sv L n 194 0 (darg 0 [(4, 253), (0, a), (0, c)]) [] g1 (g2, some (0, r3)) ∧ ((r3 ≠ 0 ∧ ((d = 0 ∧ ((a ≠ 21 ∧ (∃ g7 r8, zr sv L n 176 0 (darg 0 [(4, 253), (0, 59)]) [] g2 (g7, some (0, r8)) ∧ (o = (g7, some (0, r8))))) ∨ (a = 21 ∧ (0 ≤ w32 ((g2 253 22) - 1) → w32 ((g2 253 22) - 1) < 3 → (∃ g11 r12, zr sv L n 176 0 (darg 0 [(4, 253), (0, 59)]) [] (cup (cup (cup g2 253 22 (w32 ((g2 253 22) - 1))) 254 ((w32 (c + 5)).toNat) (g2 261 ((w32 ((g2 253 22) - 1)).toNat))) 254 ((w32 ((w32 (3236 + (w32 (8 * (g2 261 ((w32 ((g2 253 22) - 1)).toNat)))))) + 5)).toNat) b) (g11, some (0, r12)) ∧ (o = (g11, some (0, r12)))))))) ∨ (d ≠ 0 ∧ ((a ≠ 21 ∧ (∃ g14 r15, zr sv L n 176 0 (darg 0 [(4, 253), (0, 59)]) [] (cup (cup g2 261 ((g2 253 22).toNat) b) 253 22 (w32 ((g2 253 22) + 1))) (g14, some (0, r15)) ∧ (o = (g14, some (0, r15))))) ∨ (a = 21 ∧ (0 ≤ w32 ((w32 ((g2 253 22) + 1)) - 1) → w32 ((w32 ((g2 253 22) + 1)) - 1) < 3 → (∃ g18 r19, zr sv L n 176 0 (darg 0 [(4, 253), (0, 59)]) [] (cup (cup (cup (cup (cup g2 261 ((g2 253 22).toNat) b) 253 22 (w32 ((g2 253 22) + 1))) 253 22 (w32 ((w32 ((g2 253 22) + 1)) - 1))) 254 ((w32 (c + 5)).toNat) ((cup g2 261 ((g2 253 22).toNat) b) 261 ((w32 ((w32 ((g2 253 22) + 1)) - 1)).toNat))) 254 ((w32 ((w32 (3236 + (w32 (8 * ((cup g2 261 ((g2 253 22).toNat) b) 261 ((w32 ((w32 ((g2 253 22) + 1)) - 1)).toNat)))))) + 5)).toNat) b) (g18, some (0, r19)) ∧ (o = (g18, some (0, r19)))))))))) ∨ (r3 = 0 ∧ (o = (g2, some (0, 0)))))) := by
  rw [zov h0, zov h1, zov h2, zov h3, zov h4] at h
  have h := zm zy_193 h 9 (q := (189, dset (dset (dset (dset (dset lf 4 (0, d)) 3 (0, c)) 2 (0, b)) 1 (0, a)) 0 (4, 253), [(4, 253)], cup g 254 2983 (w32 ((g 254 2983) + 1)))) rfl
  dsimp only at h
  obtain ⟨g1, hk, h⟩ := zcallV zy_193 h rfl rfl zy_166 zk_166
  dsimp only at hk h
  refine ⟨g1, hk, ?_⟩
  have h := zm zy_193 h 3 (q := (195, dset (dset (dset (dset (dset lf 4 (0, d)) 3 (0, c)) 2 (0, b)) 1 (0, a)) 0 (4, 253), [(0, c), (0, a), (4, 253)], g1)) rfl
  dsimp only at h
  obtain ⟨g2, r3, hk, h⟩ := zcallI zy_193 h rfl rfl zy_194 zk_194
  dsimp only at hk h
  refine ⟨g2, r3, hk, ?_⟩
  have h := zm zy_193 h 1 (q := (cond (crel .ne r3 0) 203 201, dset (dset (dset (dset (dset lf 4 (0, d)) 3 (0, c)) 2 (0, b)) 1 (0, a)) 0 (4, 253), [], g2)) rfl
  dsimp only at h
  rcases zif_ne h with ⟨hc4, h⟩ | ⟨hc4, h⟩
  · refine Or.inl ⟨hc4, ?_⟩
    have h := zm zy_193 h 2 (q := (cond (crel .eq d 0) 228 208, dset (dset (dset (dset (dset lf 4 (0, d)) 3 (0, c)) 2 (0, b)) 1 (0, a)) 0 (4, 253), [], g2)) rfl
    dsimp only at h
    rcases zif_eq h with ⟨hc5, h⟩ | ⟨hc5, h⟩
    · refine Or.inl ⟨hc5, ?_⟩
      have h := zm zy_193 h 3 (q := (cond (crel .ne a 21) 285 234, dset (dset (dset (dset (dset lf 4 (0, d)) 3 (0, c)) 2 (0, b)) 1 (0, a)) 0 (4, 253), [], g2)) rfl
      dsimp only at h
      rcases zif_ne h with ⟨hc6, h⟩ | ⟨hc6, h⟩
      · refine Or.inl ⟨hc6, ?_⟩
        have h := zm zy_193 h 2 (q := (288, dset (dset (dset (dset (dset lf 4 (0, d)) 3 (0, c)) 2 (0, b)) 1 (0, a)) 0 (4, 253), [(0, 59), (4, 253)], g2)) rfl
        dsimp only at h
        obtain ⟨g7, r8, hk, h⟩ := zcallI zy_193 h rfl rfl zy_176 zk_176
        dsimp only at hk h
        refine ⟨g7, r8, hk, ?_⟩
        exact zret zy_193 h rfl rfl
      · refine Or.inr ⟨hc6, ?_⟩
        intro ha9 hb10
        have h := zm zy_193 h 15 (q := (259, dset (dset (dset (dset (dset lf 4 (0, d)) 3 (0, c)) 2 (0, b)) 1 (0, a)) 0 (4, 253), [(0, w32 ((g2 253 22) - 1)), (4, 261), (0, w32 (c + 5)), (4, 254)], cup g2 253 22 (w32 ((g2 253 22) - 1)))) rfl
        dsimp only at h
        have h := zald zy_193 h rfl rfl (dvb_261 ha9 hb10)
        have h : zr sv L n 193 260 (dset (dset (dset (dset (dset lf 4 (0, d)) 3 (0, c)) 2 (0, b)) 1 (0, a)) 0 (4, 253)) [(0, g2 261 ((w32 ((g2 253 22) - 1)).toNat)), (0, w32 (c + 5)), (4, 254)] (cup g2 253 22 (w32 ((g2 253 22) - 1))) o := by first | exact h | (rw [cup_at] at h; exact h) | ((repeat rw [cup_ne (by omega)] at h); exact h)
        have h := zm zy_193 h 9 (q := (278, dset (dset (dset (dset (dset lf 4 (0, d)) 3 (0, c)) 2 (0, b)) 1 (0, a)) 0 (4, 253), [(0, w32 ((g2 253 22) - 1)), (4, 261), (0, 8), (0, 3236), (4, 254)], cup (cup g2 253 22 (w32 ((g2 253 22) - 1))) 254 ((w32 (c + 5)).toNat) (g2 261 ((w32 ((g2 253 22) - 1)).toNat)))) rfl
        dsimp only at h
        have h := zald zy_193 h rfl rfl (dvb_261 ha9 hb10)
        have h : zr sv L n 193 279 (dset (dset (dset (dset (dset lf 4 (0, d)) 3 (0, c)) 2 (0, b)) 1 (0, a)) 0 (4, 253)) [(0, g2 261 ((w32 ((g2 253 22) - 1)).toNat)), (0, 8), (0, 3236), (4, 254)] (cup (cup g2 253 22 (w32 ((g2 253 22) - 1))) 254 ((w32 (c + 5)).toNat) (g2 261 ((w32 ((g2 253 22) - 1)).toNat))) o := by first | exact h | (rw [cup_at] at h; exact h) | ((repeat rw [cup_ne (by omega)] at h); exact h)
        have h := zm zy_193 h 8 (q := (288, dset (dset (dset (dset (dset lf 4 (0, d)) 3 (0, c)) 2 (0, b)) 1 (0, a)) 0 (4, 253), [(0, 59), (4, 253)], cup (cup (cup g2 253 22 (w32 ((g2 253 22) - 1))) 254 ((w32 (c + 5)).toNat) (g2 261 ((w32 ((g2 253 22) - 1)).toNat))) 254 ((w32 ((w32 (3236 + (w32 (8 * (g2 261 ((w32 ((g2 253 22) - 1)).toNat)))))) + 5)).toNat) b)) rfl
        dsimp only at h
        obtain ⟨g11, r12, hk, h⟩ := zcallI zy_193 h rfl rfl zy_176 zk_176
        dsimp only at hk h
        refine ⟨g11, r12, hk, ?_⟩
        exact zret zy_193 h rfl rfl
    · refine Or.inr ⟨hc5, ?_⟩
      have h := zm zy_193 h 15 (q := (cond (crel .ne a 21) 285 234, dset (dset (dset (dset (dset lf 4 (0, d)) 3 (0, c)) 2 (0, b)) 1 (0, a)) 0 (4, 253), [], cup (cup g2 261 ((g2 253 22).toNat) b) 253 22 (w32 ((g2 253 22) + 1)))) rfl
      dsimp only at h
      rcases zif_ne h with ⟨hc13, h⟩ | ⟨hc13, h⟩
      · refine Or.inl ⟨hc13, ?_⟩
        have h := zm zy_193 h 2 (q := (288, dset (dset (dset (dset (dset lf 4 (0, d)) 3 (0, c)) 2 (0, b)) 1 (0, a)) 0 (4, 253), [(0, 59), (4, 253)], cup (cup g2 261 ((g2 253 22).toNat) b) 253 22 (w32 ((g2 253 22) + 1)))) rfl
        dsimp only at h
        obtain ⟨g14, r15, hk, h⟩ := zcallI zy_193 h rfl rfl zy_176 zk_176
        dsimp only at hk h
        refine ⟨g14, r15, hk, ?_⟩
        exact zret zy_193 h rfl rfl
      · refine Or.inr ⟨hc13, ?_⟩
        intro ha16 hb17
        have h := zm zy_193 h 15 (q := (259, dset (dset (dset (dset (dset lf 4 (0, d)) 3 (0, c)) 2 (0, b)) 1 (0, a)) 0 (4, 253), [(0, w32 ((w32 ((g2 253 22) + 1)) - 1)), (4, 261), (0, w32 (c + 5)), (4, 254)], cup (cup (cup g2 261 ((g2 253 22).toNat) b) 253 22 (w32 ((g2 253 22) + 1))) 253 22 (w32 ((w32 ((g2 253 22) + 1)) - 1)))) rfl
        dsimp only at h
        have h := zald zy_193 h rfl rfl (dvb_261 ha16 hb17)
        have h : zr sv L n 193 260 (dset (dset (dset (dset (dset lf 4 (0, d)) 3 (0, c)) 2 (0, b)) 1 (0, a)) 0 (4, 253)) [(0, (cup g2 261 ((g2 253 22).toNat) b) 261 ((w32 ((w32 ((g2 253 22) + 1)) - 1)).toNat)), (0, w32 (c + 5)), (4, 254)] (cup (cup (cup g2 261 ((g2 253 22).toNat) b) 253 22 (w32 ((g2 253 22) + 1))) 253 22 (w32 ((w32 ((g2 253 22) + 1)) - 1))) o := by first | exact h | (rw [cup_at] at h; exact h) | ((repeat rw [cup_ne (by omega)] at h); exact h)
        have h := zm zy_193 h 9 (q := (278, dset (dset (dset (dset (dset lf 4 (0, d)) 3 (0, c)) 2 (0, b)) 1 (0, a)) 0 (4, 253), [(0, w32 ((w32 ((g2 253 22) + 1)) - 1)), (4, 261), (0, 8), (0, 3236), (4, 254)], cup (cup (cup (cup g2 261 ((g2 253 22).toNat) b) 253 22 (w32 ((g2 253 22) + 1))) 253 22 (w32 ((w32 ((g2 253 22) + 1)) - 1))) 254 ((w32 (c + 5)).toNat) ((cup g2 261 ((g2 253 22).toNat) b) 261 ((w32 ((w32 ((g2 253 22) + 1)) - 1)).toNat)))) rfl
        dsimp only at h
        have h := zald zy_193 h rfl rfl (dvb_261 ha16 hb17)
        have h : zr sv L n 193 279 (dset (dset (dset (dset (dset lf 4 (0, d)) 3 (0, c)) 2 (0, b)) 1 (0, a)) 0 (4, 253)) [(0, (cup g2 261 ((g2 253 22).toNat) b) 261 ((w32 ((w32 ((g2 253 22) + 1)) - 1)).toNat)), (0, 8), (0, 3236), (4, 254)] (cup (cup (cup (cup g2 261 ((g2 253 22).toNat) b) 253 22 (w32 ((g2 253 22) + 1))) 253 22 (w32 ((w32 ((g2 253 22) + 1)) - 1))) 254 ((w32 (c + 5)).toNat) ((cup g2 261 ((g2 253 22).toNat) b) 261 ((w32 ((w32 ((g2 253 22) + 1)) - 1)).toNat))) o := by first | exact h | (rw [cup_at] at h; exact h) | ((repeat rw [cup_ne (by omega)] at h); exact h)
        have h := zm zy_193 h 8 (q := (288, dset (dset (dset (dset (dset lf 4 (0, d)) 3 (0, c)) 2 (0, b)) 1 (0, a)) 0 (4, 253), [(0, 59), (4, 253)], cup (cup (cup (cup (cup g2 261 ((g2 253 22).toNat) b) 253 22 (w32 ((g2 253 22) + 1))) 253 22 (w32 ((w32 ((g2 253 22) + 1)) - 1))) 254 ((w32 (c + 5)).toNat) ((cup g2 261 ((g2 253 22).toNat) b) 261 ((w32 ((w32 ((g2 253 22) + 1)) - 1)).toNat))) 254 ((w32 ((w32 (3236 + (w32 (8 * ((cup g2 261 ((g2 253 22).toNat) b) 261 ((w32 ((w32 ((g2 253 22) + 1)) - 1)).toNat)))))) + 5)).toNat) b)) rfl
        dsimp only at h
        obtain ⟨g18, r19, hk, h⟩ := zcallI zy_193 h rfl rfl zy_176 zk_176
        dsimp only at hk h
        refine ⟨g18, r19, hk, ?_⟩
        exact zret zy_193 h rfl rfl
  · refine Or.inr ⟨hc4, ?_⟩
    have h := zm zy_193 h 1 (q := (202, dset (dset (dset (dset (dset lf 4 (0, d)) 3 (0, c)) 2 (0, b)) 1 (0, a)) 0 (4, 253), [(0, 0)], g2)) rfl
    dsimp only at h
    exact zret zy_193 h rfl rfl
theorem m_tr0 {sv : Nat → Int32} {L n : Nat} {lf : dlf} {g : cg} {o : cg × Option cv} {a : Int} (h : zr sv L n 276 0 lf [] g o) (h0 : lf 0 = (4, 253)) (h1 : lf 1 = (0, a)) : ∃ g1 r2, zr sv L n 165 0 (darg 0 [(4, 253), (0, a), (0, 300)]) [] g (g1, some (0, r2)) ∧ ((r2 ≠ 0 ∧ (∃ lf'4, lf'4 0 = (4, 253) ∧ lf'4 2 = (0, 1) ∧ zr sv L n 276 38 lf'4 [] (cup (cup (cup g1 254 2983 0) 253 22 0) 253 23 0) o)) ∨ (r2 = 0 ∧ (∃ g5 r6, zr sv L n 170 0 (darg 0 [(4, 253), (0, 1)]) [] g1 (g5, some (0, r6)) ∧ (o = (g5, some (0, r6)))))) := by
  rw [zov h0, zov h1] at h
  have h := zm zy_276 h 3 (q := (5, dset (dset lf 1 (0, a)) 0 (4, 253), [(0, 300), (0, a), (4, 253)], g)) rfl
  dsimp only at h
  obtain ⟨g1, r2, hk, h⟩ := zcallI zy_276 h rfl rfl zy_165 zk_165
  dsimp only at hk h
  refine ⟨g1, r2, hk, ?_⟩
  have h := zm zy_276 h 1 (q := (cond (crel .ne r2 0) 17 11, dset (dset lf 1 (0, a)) 0 (4, 253), [], g1)) rfl
  dsimp only at h
  rcases zif_ne h with ⟨hc3, h⟩ | ⟨hc3, h⟩
  · refine Or.inl ⟨hc3, ?_⟩
    have h := zm zy_276 h 13 (q := (38, dset (dset (dset lf 1 (0, a)) 0 (4, 253)) 2 (0, 1), [], cup (cup (cup g1 254 2983 0) 253 22 0) 253 23 0)) rfl
    dsimp only at h
    exact ⟨_, rfl, rfl, h⟩
  · refine Or.inr ⟨hc3, ?_⟩
    have h := zm zy_276 h 2 (q := (13, dset (dset lf 1 (0, a)) 0 (4, 253), [(0, 1), (4, 253)], g1)) rfl
    dsimp only at h
    obtain ⟨g5, r6, hk, h⟩ := zcallI zy_276 h rfl rfl zy_170 zk_170
    dsimp only at hk h
    refine ⟨g5, r6, hk, ?_⟩
    exact zret zy_276 h rfl rfl
theorem m_tr38 {sv : Nat → Int32} {L n : Nat} {lf : dlf} {g : cg} {o : cg × Option cv} {b : Int} (h : zr sv L (n + 1) 276 38 lf [] g o) (h0 : lf 0 = (4, 253)) (h2 : lf 2 = (0, b)) : (b = 0 ∧ (∃ lf'2, lf'2 0 = (4, 253) ∧ zr sv L n 276 57 lf'2 [] g o)) ∨ (b ≠ 0 ∧ ((g 253 12 = 0 ∧ (∃ lf'4, lf'4 0 = (4, 253) ∧ zr sv L n 276 57 lf'4 [] g o)) ∨ (g 253 12 ≠ 0 ∧ (∃ g5 r6, zr sv L n 193 0 (darg 0 [(4, 253)]) [] g (g5, some (0, r6)) ∧ (∃ lf'7, lf'7 0 = (4, 253) ∧ lf'7 2 = (0, r6) ∧ zr sv L n 276 38 lf'7 [] g5 o))))) := by
  rw [zov h0, zov h2] at h
  have h := zm1 zy_276 h 1 (q := (cond (crel .eq b 0) 57 42, dset (dset lf 2 (0, b)) 0 (4, 253), [], g)) rfl
  dsimp only at h
  rcases zif_eq h with ⟨hc1, h⟩ | ⟨hc1, h⟩
  · refine Or.inl ⟨hc1, ?_⟩
    exact ⟨_, rfl, h⟩
  · refine Or.inr ⟨hc1, ?_⟩
    have h := zm zy_276 h 3 (q := (cond (crel .eq (g 253 12) 0) 57 49, dset (dset lf 2 (0, b)) 0 (4, 253), [], g)) rfl
    dsimp only at h
    rcases zif_eq h with ⟨hc3, h⟩ | ⟨hc3, h⟩
    · refine Or.inl ⟨hc3, ?_⟩
      exact ⟨_, rfl, h⟩
    · refine Or.inr ⟨hc3, ?_⟩
      have h := zm zy_276 h 1 (q := (50, dset (dset lf 2 (0, b)) 0 (4, 253), [(4, 253)], g)) rfl
      dsimp only at h
      obtain ⟨g5, r6, hk, h⟩ := zcallI zy_276 h rfl rfl zy_193 zk_193
      dsimp only at hk h
      refine ⟨g5, r6, hk, ?_⟩
      have h := zm zy_276 h 2 (q := (38, dset (dset (dset lf 2 (0, b)) 0 (4, 253)) 2 (0, r6), [], g5)) rfl
      dsimp only at h
      exact ⟨_, rfl, rfl, h⟩
theorem m_tr57 {sv : Nat → Int32} {L n : Nat} {lf : dlf} {g : cg} {o : cg × Option cv} (h : zr sv L n 276 57 lf [] g o) (h0 : lf 0 = (4, 253)) : (g 253 18 ≠ 0 ∧ (∃ lf'2, lf'2 0 = (4, 253) ∧ zr sv L n 276 77 lf'2 [] g o)) ∨ (g 253 18 = 0 ∧ ((g 253 22 ≤ 0 ∧ (∃ lf'4, lf'4 0 = (4, 253) ∧ zr sv L n 276 77 lf'4 [] g o)) ∨ (0 < g 253 22 ∧ (∃ g5 r6, zr sv L n 173 0 (darg 0 [(4, 253), (0, 2)]) [] g (g5, some (0, r6)) ∧ (∃ lf'7, lf'7 0 = (4, 253) ∧ zr sv L n 276 77 lf'7 [] g5 o))))) := by
  rw [zov h0] at h
  have h := zm zy_276 h 3 (q := (cond (crel .ne (g 253 18) 0) 77 64, dset lf 0 (4, 253), [], g)) rfl
  dsimp only at h
  rcases zif_ne h with ⟨hc1, h⟩ | ⟨hc1, h⟩
  · refine Or.inl ⟨hc1, ?_⟩
    exact ⟨_, rfl, h⟩
  · refine Or.inr ⟨hc1, ?_⟩
    have h := zm zy_276 h 3 (q := (cond (crel .le (g 253 22) 0) 77 71, dset lf 0 (4, 253), [], g)) rfl
    dsimp only at h
    rcases zif_le h with ⟨hc3, h⟩ | ⟨hc3, h⟩
    · refine Or.inl ⟨hc3, ?_⟩
      exact ⟨_, rfl, h⟩
    · refine Or.inr ⟨hc3, ?_⟩
      have h := zm zy_276 h 2 (q := (73, dset lf 0 (4, 253), [(0, 2), (4, 253)], g)) rfl
      dsimp only at h
      obtain ⟨g5, r6, hk, h⟩ := zcallI zy_276 h rfl rfl zy_173 zk_173
      dsimp only at hk h
      refine ⟨g5, r6, hk, ?_⟩
      have h := zm zy_276 h 1 (q := (77, dset lf 0 (4, 253), [], g5)) rfl
      dsimp only at h
      exact ⟨_, rfl, h⟩
theorem m_tr77 {sv : Nat → Int32} {L n : Nat} {lf : dlf} {g : cg} {o : cg × Option cv} (h : zr sv L n 276 77 lf [] g o) (h0 : lf 0 = (4, 253)) : (g 253 18 ≠ 0 ∧ (∃ lf'2, lf'2 0 = (4, 253) ∧ zr sv L n 276 132 lf'2 [] g o)) ∨ (g 253 18 = 0 ∧ (∃ lf'3, lf'3 0 = (4, 253) ∧ lf'3 3 = (0, 260) ∧ zr sv L n 276 103 lf'3 [] (cup g 254 7 (g 254 2983)) o)) := by
  rw [zov h0] at h
  have h := zm zy_276 h 3 (q := (cond (crel .ne (g 253 18) 0) 132 84, dset lf 0 (4, 253), [], g)) rfl
  dsimp only at h
  rcases zif_ne h with ⟨hc1, h⟩ | ⟨hc1, h⟩
  · refine Or.inl ⟨hc1, ?_⟩
    exact ⟨_, rfl, h⟩
  · refine Or.inr ⟨hc1, ?_⟩
    have h := zm zy_276 h 10 (q := (103, dset (dset lf 0 (4, 253)) 3 (0, 260), [], cup g 254 7 (g 254 2983))) rfl
    dsimp only at h
    exact ⟨_, rfl, rfl, h⟩
theorem m_tr103 {sv : Nat → Int32} {L n : Nat} {lf : dlf} {g : cg} {o : cg × Option cv} {b : Int} (h : zr sv L (n + 1) 276 103 lf [] g o) (h0 : lf 0 = (4, 253)) (h3 : lf 3 = (0, b)) : (740 ≤ b ∧ (∃ lf'2, lf'2 0 = (4, 253) ∧ zr sv L n 276 132 lf'2 [] g o)) ∨ (b < 740 ∧ (0 ≤ w32 (2976 + b) → w32 (2976 + b) < 5208 → (∃ lf'5, lf'5 0 = (4, 253) ∧ lf'5 3 = (0, w32 (b + 1)) ∧ zr sv L n 276 103 lf'5 [] (cup g 254 ((b).toNat) (g 254 ((w32 (2976 + b)).toNat))) o))) := by
  rw [zov h0, zov h3] at h
  have h := zm1 zy_276 h 2 (q := (cond (crel .ge b 740) 132 110, dset (dset lf 3 (0, b)) 0 (4, 253), [], g)) rfl
  dsimp only at h
  rcases zif_ge h with ⟨hc1, h⟩ | ⟨hc1, h⟩
  · refine Or.inl ⟨hc1, ?_⟩
    exact ⟨_, rfl, h⟩
  · refine Or.inr ⟨hc1, ?_⟩
    intro ha3 hb4
    have h := zm zy_276 h 8 (q := (124, dset (dset lf 3 (0, b)) 0 (4, 253), [(0, w32 (2976 + b)), (4, 254), (0, b), (4, 254)], g)) rfl
    dsimp only at h
    have h := zald zy_276 h rfl rfl (dvb_254 ha3 hb4)
    have h : zr sv L n 276 125 (dset (dset lf 3 (0, b)) 0 (4, 253)) [(0, g 254 ((w32 (2976 + b)).toNat)), (0, b), (4, 254)] (g) o := by first | exact h | (rw [cup_at] at h; exact h) | ((repeat rw [cup_ne (by omega)] at h); exact h)
    have h := zm zy_276 h 3 (q := (103, dset (dset (dset lf 3 (0, b)) 0 (4, 253)) 3 (0, w32 (b + 1)), [], cup g 254 ((b).toNat) (g 254 ((w32 (2976 + b)).toNat)))) rfl
    dsimp only at h
    exact ⟨_, rfl, rfl, h⟩
theorem m_tr132 {sv : Nat → Int32} {L n : Nat} {lf : dlf} {g : cg} {o : cg × Option cv} (h : zr sv L n 276 132 lf [] g o) (h0 : lf 0 = (4, 253)) : ∃ g1 r2, zr sv L n 191 0 (darg 0 [(4, 253), (0, g 253 23)]) [] g (g1, some (0, r2)) ∧ (o = (g1, some (0, r2))) := by
  rw [zov h0] at h
  have h := zm zy_276 h 3 (q := (137, dset lf 0 (4, 253), [(0, g 253 23), (4, 253)], g)) rfl
  dsimp only at h
  obtain ⟨g1, r2, hk, h⟩ := zcallI zy_276 h rfl rfl zy_191 zk_191
  dsimp only at hk h
  refine ⟨g1, r2, hk, ?_⟩
  exact zret zy_276 h rfl rfl
end
