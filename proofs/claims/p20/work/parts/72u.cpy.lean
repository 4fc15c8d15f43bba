/-! copies of a court: printed by program (wip/tools/zcp.py) -/
section
set_option maxRecDepth 100000
theorem zy_60 : xg xcode 60 = some xt_60 := rfl
theorem zk_60 : zkc 0 xt_60 = true := by decide +kernel
theorem zy_61 : xg xcode 61 = some xt_61 := rfl
theorem zk_61 : zkc 0 xt_61 = true := by decide +kernel
theorem zy_63 : xg xcode 63 = some xt_63 := rfl
theorem zk_63 : zkc 0 xt_63 = true := by decide +kernel
theorem dvp_6 {g : cg} {i : Int} (h0 : 0 ≤ i) (h1 : i < 6) : dval xh2 g 6 i.toNat = (4, 17 + 2 * i) := by
  rcases (show i = 0 ∨ i = 1 ∨ i = 2 ∨ i = 3 ∨ i = 4 ∨ i = 5 from by omega) with e | e | e | e | e | e <;> subst e <;> rfl
theorem dvf_17_6 {g : cg} {i : Int} (h0 : 0 ≤ i) (h1 : i < 6) : dval xh2 g (17 + 2 * i).toNat 6 = (4, 18 + 2 * i) := by
  rcases (show i = 0 ∨ i = 1 ∨ i = 2 ∨ i = 3 ∨ i = 4 ∨ i = 5 from by omega) with e | e | e | e | e | e <;> subst e <;> rfl
theorem dvf_59_2 {g : cg} {i : Int} (h0 : 0 ≤ i) (h1 : i < 6) : dval xh2 g (59 + 2 * i).toNat 2 = (0, g (59 + 2 * i).toNat 2) := by
  rcases (show i = 0 ∨ i = 1 ∨ i = 2 ∨ i = 3 ∨ i = 4 ∨ i = 5 from by omega) with e | e | e | e | e | e <;> subst e <;> rfl
theorem dvf_59_3 {g : cg} {i : Int} (h0 : 0 ≤ i) (h1 : i < 6) : dval xh2 g (59 + 2 * i).toNat 3 = (0, g (59 + 2 * i).toNat 3) := by
  rcases (show i = 0 ∨ i = 1 ∨ i = 2 ∨ i = 3 ∨ i = 4 ∨ i = 5 from by omega) with e | e | e | e | e | e <;> subst e <;> rfl
theorem t_cpAll {sv : Nat → Int32} {L n : Nat} {lf : dlf} {g : cg} {o : cg × Option cv} (h : zr sv L n 59 0 lf [] g o) (h0 : lf 0 = (4, 3)) (h1 : lf 1 = (4, 45)) : ∃ g1, zr sv L n 60 0 (darg 0 [(4, 3), (4, 45)]) [] g (g1, none) ∧ (∃ g2, zr sv L n 63 0 (darg 0 [(4, 8), (4, 50)]) [] g1 (g2, none) ∧ (o = (g2, none))) := by
  rw [zov h0, zov h1] at h
  have h := zm zy_59 h 2 (q := (2, dset (dset lf 1 (4, 45)) 0 (4, 3), [(4, 45), (4, 3)], g)) rfl
  dsimp only at h
  obtain ⟨g1, hk, h⟩ := zcallV zy_59 h rfl rfl zy_60 zk_60
  dsimp only at hk h
  refine ⟨g1, hk, ?_⟩
  have h := zm zy_59 h 4 (q := (13, dset (dset lf 1 (4, 45)) 0 (4, 3), [(4, 50), (4, 8)], g1)) rfl
  dsimp only at h
  obtain ⟨g2, hk, h⟩ := zcallV zy_59 h rfl rfl zy_63 zk_63
  dsimp only at hk h
  refine ⟨g2, hk, ?_⟩
  exact zret zy_59 h rfl rfl
theorem t_cpCase0 {sv : Nat → Int32} {L n : Nat} {lf : dlf} {g : cg} {o : cg × Option cv} (h : zr sv L n 60 0 lf [] g o) (h0 : lf 0 = (4, 3)) (h1 : lf 1 = (4, 45)) : ∃ lf'1, lf'1 0 = (4, 3) ∧ lf'1 1 = (4, 45) ∧ lf'1 2 = (0, 0) ∧ zr sv L n 60 86 lf'1 [] (ccp (ccp (cup (cup (cup (cup (cup (cup (cup g 3 0 (g 45 0)) 3 3 (g 45 3)) 3 5 (g 45 5)) 3 6 (g 45 6)) 3 7 (g 45 7)) 3 8 (g 45 8)) 3 9 (g 45 9)) 46 4 0 0 5) 47 5 0 0 5) o := by
  rw [zov h0, zov h1] at h
  have h := zm zy_60 h 46 (q := (86, dset (dset (dset lf 1 (4, 45)) 0 (4, 3)) 2 (0, 0), [], ccp (ccp (cup (cup (cup (cup (cup (cup (cup g 3 0 (g 45 0)) 3 3 (g 45 3)) 3 5 (g 45 5)) 3 6 (g 45 6)) 3 7 (g 45 7)) 3 8 (g 45 8)) 3 9 (g 45 9)) 46 4 0 0 5) 47 5 0 0 5)) rfl
  dsimp only at h
  exact ⟨_, rfl, rfl, rfl, h⟩
theorem t_cpCase86 {sv : Nat → Int32} {L n : Nat} {lf : dlf} {g : cg} {o : cg × Option cv} {b : Int} (h : zr sv L (n + 1) 60 86 lf [] g o) (h0 : lf 0 = (4, 3)) (h1 : lf 1 = (4, 45)) (h2 : lf 2 = (0, b)) : (g 3 3 ≤ b ∧ (∃ lf'2, lf'2 0 = (4, 3) ∧ lf'2 1 = (4, 45) ∧ lf'2 2 = (0, 0) ∧ zr sv L n 60 123 lf'2 [] g o)) ∨ (b < g 3 3 ∧ ((6 ≤ b ∧ (∃ lf'4, lf'4 0 = (4, 3) ∧ lf'4 1 = (4, 45) ∧ lf'4 2 = (0, 0) ∧ zr sv L n 60 123 lf'4 [] g o)) ∨ (b < 6 ∧ (0 ≤ b → b < 6 → (∃ g7, zr sv L n 61 0 (darg 0 [(4, 17 + 2 * b), (4, 59 + 2 * b)]) [] g (g7, none) ∧ (∃ lf'8, lf'8 0 = (4, 3) ∧ lf'8 1 = (4, 45) ∧ lf'8 2 = (0, w32 (b + 1)) ∧ zr sv L n 60 86 lf'8 [] g7 o)))))) := by
  rw [zov h0, zov h1, zov h2] at h
  have h := zm1 zy_60 h 3 (q := (cond (crel .ge b (g 3 3)) 121 94, dset (dset (dset lf 2 (0, b)) 1 (4, 45)) 0 (4, 3), [], g)) rfl
  dsimp only at h
  rcases zif_ge h with ⟨hc1, h⟩ | ⟨hc1, h⟩
  · refine Or.inl ⟨hc1, ?_⟩
    have h := zm zy_60 h 2 (q := (123, dset (dset (dset (dset lf 2 (0, b)) 1 (4, 45)) 0 (4, 3)) 2 (0, 0), [], g)) rfl
    dsimp only at h
    exact ⟨_, rfl, rfl, rfl, h⟩
  · refine Or.inr ⟨hc1, ?_⟩
    have h := zm zy_60 h 3 (q := (cond (crel .ge b 6) 121 100, dset (dset (dset lf 2 (0, b)) 1 (4, 45)) 0 (4, 3), [], g)) rfl
    dsimp only at h
    rcases zif_ge h with ⟨hc3, h⟩ | ⟨hc3, h⟩
    · refine Or.inl ⟨hc3, ?_⟩
      have h := zm zy_60 h 2 (q := (123, dset (dset (dset (dset lf 2 (0, b)) 1 (4, 45)) 0 (4, 3)) 2 (0, 0), [], g)) rfl
      dsimp only at h
      exact ⟨_, rfl, rfl, rfl, h⟩
    · refine Or.inr ⟨hc3, ?_⟩
      intro ha5 hb6
      have h := zm zy_60 h 3 (q := (105, dset (dset (dset lf 2 (0, b)) 1 (4, 45)) 0 (4, 3), [(0, b), (4, 6)], g)) rfl
      dsimp only at h
      have h := zald zy_60 h rfl rfl (dvp_6 ha5 hb6)
      have h := zm zy_60 h 3 (q := (111, dset (dset (dset lf 2 (0, b)) 1 (4, 45)) 0 (4, 3), [(0, b), (4, 48), (4, 17 + 2 * b)], g)) rfl
      dsimp only at h
      have h := zald zy_60 h rfl rfl (dvp_48 ha5 hb6)
      obtain ⟨g7, hk, h⟩ := zcallV zy_60 h rfl rfl zy_61 zk_61
      dsimp only at hk h
      refine ⟨g7, hk, ?_⟩
      have h := zm zy_60 h 2 (q := (86, dset (dset (dset (dset lf 2 (0, b)) 1 (4, 45)) 0 (4, 3)) 2 (0, w32 (b + 1)), [], g7)) rfl
      dsimp only at h
      exact ⟨_, rfl, rfl, rfl, h⟩
theorem t_cpCase123 {sv : Nat → Int32} {L n : Nat} {lf : dlf} {g : cg} {o : cg × Option cv} {b : Int} (h : zr sv L (n + 1) 60 123 lf [] g o) (h0 : lf 0 = (4, 3)) (h1 : lf 1 = (4, 45)) (h2 : lf 2 = (0, b)) : (g 3 9 ≤ b ∧ (o = (g, none))) ∨ (b < g 3 9 ∧ ((16 ≤ b ∧ (o = (g, none))) ∨ (b < 16 ∧ (True)))) := by
  rw [zov h0, zov h1, zov h2] at h
  have h := zm1 zy_60 h 3 (q := (cond (crel .ge b (g 3 9)) 158 131, dset (dset (dset lf 2 (0, b)) 1 (4, 45)) 0 (4, 3), [], g)) rfl
  dsimp only at h
  rcases zif_ge h with ⟨hc1, h⟩ | ⟨hc1, h⟩
  · refine Or.inl ⟨hc1, ?_⟩
    exact zret zy_60 h rfl rfl
  · refine Or.inr ⟨hc1, ?_⟩
    have h := zm zy_60 h 3 (q := (cond (crel .ge b 16) 158 137, dset (dset (dset lf 2 (0, b)) 1 (4, 45)) 0 (4, 3), [], g)) rfl
    dsimp only at h
    rcases zif_ge h with ⟨hc2, h⟩ | ⟨hc2, h⟩
    · refine Or.inl ⟨hc2, ?_⟩
      exact zret zy_60 h rfl rfl
    · refine Or.inr ⟨hc2, ?_⟩
      trivial
theorem t_cpPer {sv : Nat → Int32} {L n : Nat} {lf : dlf} {g : cg} {o : cg × Option cv} {i : Int} (hi0 : 0 ≤ i) (hi6 : i < 6) (h : zr sv L n 61 0 lf [] g o) (h0 : lf 0 = (4, 17 + 2 * i)) (h1 : lf 1 = (4, 59 + 2 * i)) : o = (ccp (cup (cup (cup (cup (cup (cup g ((17 + 2 * i).toNat) 0 (g ((59 + 2 * i).toNat) 0)) ((17 + 2 * i).toNat) 1 (g ((59 + 2 * i).toNat) 1)) ((17 + 2 * i).toNat) 2 (g ((59 + 2 * i).toNat) 2)) ((17 + 2 * i).toNat) 3 (g ((59 + 2 * i).toNat) 3)) ((17 + 2 * i).toNat) 4 (g ((59 + 2 * i).toNat) 4)) ((17 + 2 * i).toNat) 5 (g ((59 + 2 * i).toNat) 5)) ((60 + 2 * i).toNat) ((18 + 2 * i).toNat) 0 0 8, none) := by
  rw [zov h0, zov h1] at h
  have h := zm zy_61 h 2 (q := (2, dset (dset lf 1 (4, 59 + 2 * i)) 0 (4, 17 + 2 * i), [(4, 59 + 2 * i), (4, 17 + 2 * i)], g)) rfl
  dsimp only at h
  have h := zgf zy_61 h rfl rfl (dvf_59_0 hi0 hi6)
  have h : zr sv L n 61 5 (dset (dset lf 1 (4, 59 + 2 * i)) 0 (4, 17 + 2 * i)) [(2, g ((59 + 2 * i).toNat) 0), (4, 17 + 2 * i)] (g) o := by first | exact h | (rw [cup_at] at h; exact h) | ((repeat rw [cup_ne (by omega)] at h); exact h)
  have h := zm zy_61 h 3 (q := (10, dset (dset lf 1 (4, 59 + 2 * i)) 0 (4, 17 + 2 * i), [(4, 59 + 2 * i), (4, 17 + 2 * i)], cup g ((17 + 2 * i).toNat) 0 (g ((59 + 2 * i).toNat) 0))) rfl
  dsimp only at h
  have h := zgf zy_61 h rfl rfl (dvf_59_1 hi0 hi6)
  have h : zr sv L n 61 13 (dset (dset lf 1 (4, 59 + 2 * i)) 0 (4, 17 + 2 * i)) [(0, g ((59 + 2 * i).toNat) 1), (4, 17 + 2 * i)] (cup g ((17 + 2 * i).toNat) 0 (g ((59 + 2 * i).toNat) 0)) o := by first | exact h | (rw [cup_at] at h; exact h) | ((repeat rw [cup_ne (by omega)] at h); exact h)
  have h := zm zy_61 h 3 (q := (18, dset (dset lf 1 (4, 59 + 2 * i)) 0 (4, 17 + 2 * i), [(4, 59 + 2 * i), (4, 17 + 2 * i)], cup (cup g ((17 + 2 * i).toNat) 0 (g ((59 + 2 * i).toNat) 0)) ((17 + 2 * i).toNat) 1 (g ((59 + 2 * i).toNat) 1))) rfl
  dsimp only at h
  have h := zgf zy_61 h rfl rfl (dvf_59_2 hi0 hi6)
  have h : zr sv L n 61 21 (dset (dset lf 1 (4, 59 + 2 * i)) 0 (4, 17 + 2 * i)) [(0, g ((59 + 2 * i).toNat) 2), (4, 17 + 2 * i)] (cup (cup g ((17 + 2 * i).toNat) 0 (g ((59 + 2 * i).toNat) 0)) ((17 + 2 * i).toNat) 1 (g ((59 + 2 * i).toNat) 1)) o := by first | exact h | (rw [cup_at] at h; exact h) | ((repeat rw [cup_ne (by omega)] at h); exact h)
  have h := zm zy_61 h 3 (q := (26, dset (dset lf 1 (4, 59 + 2 * i)) 0 (4, 17 + 2 * i), [(4, 59 + 2 * i), (4, 17 + 2 * i)], cup (cup (cup g ((17 + 2 * i).toNat) 0 (g ((59 + 2 * i).toNat) 0)) ((17 + 2 * i).toNat) 1 (g ((59 + 2 * i).toNat) 1)) ((17 + 2 * i).toNat) 2 (g ((59 + 2 * i).toNat) 2))) rfl
  dsimp only at h
  have h := zgf zy_61 h rfl rfl (dvf_59_3 hi0 hi6)
  have h : zr sv L n 61 29 (dset (dset lf 1 (4, 59 + 2 * i)) 0 (4, 17 + 2 * i)) [(0, g ((59 + 2 * i).toNat) 3), (4, 17 + 2 * i)] (cup (cup (cup g ((17 + 2 * i).toNat) 0 (g ((59 + 2 * i).toNat) 0)) ((17 + 2 * i).toNat) 1 (g ((59 + 2 * i).toNat) 1)) ((17 + 2 * i).toNat) 2 (g ((59 + 2 * i).toNat) 2)) o := by first | exact h | (rw [cup_at] at h; exact h) | ((repeat rw [cup_ne (by omega)] at h); exact h)
  have h := zm zy_61 h 3 (q := (34, dset (dset lf 1 (4, 59 + 2 * i)) 0 (4, 17 + 2 * i), [(4, 59 + 2 * i), (4, 17 + 2 * i)], cup (cup (cup (cup g ((17 + 2 * i).toNat) 0 (g ((59 + 2 * i).toNat) 0)) ((17 + 2 * i).toNat) 1 (g ((59 + 2 * i).toNat) 1)) ((17 + 2 * i).toNat) 2 (g ((59 + 2 * i).toNat) 2)) ((17 + 2 * i).toNat) 3 (g ((59 + 2 * i).toNat) 3))) rfl
  dsimp only at h
  have h := zgf zy_61 h rfl rfl (dvf_59_4 hi0 hi6)
  have h : zr sv L n 61 37 (dset (dset lf 1 (4, 59 + 2 * i)) 0 (4, 17 + 2 * i)) [(0, g ((59 + 2 * i).toNat) 4), (4, 17 + 2 * i)] (cup (cup (cup (cup g ((17 + 2 * i).toNat) 0 (g ((59 + 2 * i).toNat) 0)) ((17 + 2 * i).toNat) 1 (g ((59 + 2 * i).toNat) 1)) ((17 + 2 * i).toNat) 2 (g ((59 + 2 * i).toNat) 2)) ((17 + 2 * i).toNat) 3 (g ((59 + 2 * i).toNat) 3)) o := by first | exact h | (rw [cup_at] at h; exact h) | ((repeat rw [cup_ne (by omega)] at h); exact h)
  have h := zm zy_61 h 3 (q := (42, dset (dset lf 1 (4, 59 + 2 * i)) 0 (4, 17 + 2 * i), [(4, 59 + 2 * i), (4, 17 + 2 * i)], cup (cup (cup (cup (cup g ((17 + 2 * i).toNat) 0 (g ((59 + 2 * i).toNat) 0)) ((17 + 2 * i).toNat) 1 (g ((59 + 2 * i).toNat) 1)) ((17 + 2 * i).toNat) 2 (g ((59 + 2 * i).toNat) 2)) ((17 + 2 * i).toNat) 3 (g ((59 + 2 * i).toNat) 3)) ((17 + 2 * i).toNat) 4 (g ((59 + 2 * i).toNat) 4))) rfl
  dsimp only at h
  have h := zgf zy_61 h rfl rfl (dvf_59_5 hi0 hi6)
  have h : zr sv L n 61 45 (dset (dset lf 1 (4, 59 + 2 * i)) 0 (4, 17 + 2 * i)) [(0, g ((59 + 2 * i).toNat) 5), (4, 17 + 2 * i)] (cup (cup (cup (cup (cup g ((17 + 2 * i).toNat) 0 (g ((59 + 2 * i).toNat) 0)) ((17 + 2 * i).toNat) 1 (g ((59 + 2 * i).toNat) 1)) ((17 + 2 * i).toNat) 2 (g ((59 + 2 * i).toNat) 2)) ((17 + 2 * i).toNat) 3 (g ((59 + 2 * i).toNat) 3)) ((17 + 2 * i).toNat) 4 (g ((59 + 2 * i).toNat) 4)) o := by first | exact h | (rw [cup_at] at h; exact h) | ((repeat rw [cup_ne (by omega)] at h); exact h)
  have h := zm zy_61 h 2 (q := (49, dset (dset lf 1 (4, 59 + 2 * i)) 0 (4, 17 + 2 * i), [(4, 59 + 2 * i)], cup (cup (cup (cup (cup (cup g ((17 + 2 * i).toNat) 0 (g ((59 + 2 * i).toNat) 0)) ((17 + 2 * i).toNat) 1 (g ((59 + 2 * i).toNat) 1)) ((17 + 2 * i).toNat) 2 (g ((59 + 2 * i).toNat) 2)) ((17 + 2 * i).toNat) 3 (g ((59 + 2 * i).toNat) 3)) ((17 + 2 * i).toNat) 4 (g ((59 + 2 * i).toNat) 4)) ((17 + 2 * i).toNat) 5 (g ((59 + 2 * i).toNat) 5))) rfl
  dsimp only at h
  have h := zgf zy_61 h rfl rfl (dvf_59_6 hi0 hi6)
  have h := zm zy_61 h 2 (q := (54, dset (dset lf 1 (4, 59 + 2 * i)) 0 (4, 17 + 2 * i), [(4, 17 + 2 * i), (0, 0), (4, 60 + 2 * i)], cup (cup (cup (cup (cup (cup g ((17 + 2 * i).toNat) 0 (g ((59 + 2 * i).toNat) 0)) ((17 + 2 * i).toNat) 1 (g ((59 + 2 * i).toNat) 1)) ((17 + 2 * i).toNat) 2 (g ((59 + 2 * i).toNat) 2)) ((17 + 2 * i).toNat) 3 (g ((59 + 2 * i).toNat) 3)) ((17 + 2 * i).toNat) 4 (g ((59 + 2 * i).toNat) 4)) ((17 + 2 * i).toNat) 5 (g ((59 + 2 * i).toNat) 5))) rfl
  dsimp only at h
  have h := zgf zy_61 h rfl rfl (dvf_17_6 hi0 hi6)
  have h := zm zy_61 h 3 (q := (63, dset (dset lf 1 (4, 59 + 2 * i)) 0 (4, 17 + 2 * i), [], ccp (cup (cup (cup (cup (cup (cup g ((17 + 2 * i).toNat) 0 (g ((59 + 2 * i).toNat) 0)) ((17 + 2 * i).toNat) 1 (g ((59 + 2 * i).toNat) 1)) ((17 + 2 * i).toNat) 2 (g ((59 + 2 * i).toNat) 2)) ((17 + 2 * i).toNat) 3 (g ((59 + 2 * i).toNat) 3)) ((17 + 2 * i).toNat) 4 (g ((59 + 2 * i).toNat) 4)) ((17 + 2 * i).toNat) 5 (g ((59 + 2 * i).toNat) 5)) ((60 + 2 * i).toNat) ((18 + 2 * i).toNat) 0 0 8)) rfl
  dsimp only at h
  exact zret zy_61 h rfl rfl
theorem t_cpTri {sv : Nat → Int32} {L n : Nat} {lf : dlf} {g : cg} {o : cg × Option cv} (h : zr sv L n 63 0 lf [] g o) (h0 : lf 0 = (4, 8)) (h1 : lf 1 = (4, 50)) : o = (ccp (ccp (ccp (ccp (ccp (ccp (ccp (ccp (cup (cup (cup g 8 0 (g 50 0)) 8 1 (g 50 1)) 8 2 (g 50 2)) 51 9 0 0 ((g 50 2).toNat)) 52 10 0 0 ((g 50 2).toNat)) 53 11 0 0 ((g 50 2).toNat)) 54 12 0 0 ((g 50 2).toNat)) 55 13 0 0 ((g 50 2).toNat)) 56 14 0 0 ((g 50 2).toNat)) 57 15 0 0 ((g 50 2).toNat)) 58 16 0 0 ((g 50 2).toNat), none) := by
  rw [zov h0, zov h1] at h
  have h := zm zy_63 h 84 (q := (160, dset (dset lf 1 (4, 50)) 0 (4, 8), [], ccp (ccp (ccp (ccp (ccp (ccp (ccp (ccp (cup (cup (cup g 8 0 (g 50 0)) 8 1 (g 50 1)) 8 2 (g 50 2)) 51 9 0 0 ((g 50 2).toNat)) 52 10 0 0 ((g 50 2).toNat)) 53 11 0 0 ((g 50 2).toNat)) 54 12 0 0 ((g 50 2).toNat)) 55 13 0 0 ((g 50 2).toNat)) 56 14 0 0 ((g 50 2).toNat)) 57 15 0 0 ((g 50 2).toNat)) 58 16 0 0 ((g 50 2).toNat))) rfl
  dsimp only at h
  exact zret zy_63 h rfl rfl
theorem m_plain2 {sv : Nat → Int32} {L n : Nat} {lf : dlf} {g : cg} {o : cg × Option cv} {a b : Int} (h : zr sv L (n + 1) 21 2 lf [] g o) (h0 : lf 0 = (4, 253)) (h1 : lf 1 = (0, a)) (h2 : lf 2 = (0, b)) : (744 ≤ b ∧ (∃ lf'2, lf'2 0 = (4, 253) ∧ lf'2 1 = (0, a) ∧ lf'2 2 = (0, 0) ∧ zr sv L n 21 26 lf'2 [] g o)) ∨ (b < 744 ∧ (∃ lf'3, lf'3 0 = (4, 253) ∧ lf'3 1 = (0, a) ∧ lf'3 2 = (0, w32 (b + 1)) ∧ zr sv L n 21 2 lf'3 [] (cup g 254 ((w32 (a + b)).toNat) 0) o)) := by
  rw [zov h0, zov h1, zov h2] at h
  have h := zm1 zy_21 h 2 (q := (cond (crel .ge b 744) 24 9, dset (dset (dset lf 2 (0, b)) 1 (0, a)) 0 (4, 253), [], g)) rfl
  dsimp only at h
  rcases zif_ge h with ⟨hc1, h⟩ | ⟨hc1, h⟩
  · refine Or.inl ⟨hc1, ?_⟩
    have h := zm zy_21 h 2 (q := (26, dset (dset (dset (dset lf 2 (0, b)) 1 (0, a)) 0 (4, 253)) 2 (0, 0), [], g)) rfl
    dsimp only at h
    exact ⟨_, rfl, rfl, rfl, h⟩
  · refine Or.inr ⟨hc1, ?_⟩
    have h := zm zy_21 h 9 (q := (2, dset (dset (dset (dset lf 2 (0, b)) 1 (0, a)) 0 (4, 253)) 2 (0, w32 (b + 1)), [], cup g 254 ((w32 (a + b)).toNat) 0)) rfl
    dsimp only at h
    exact ⟨_, rfl, rfl, rfl, h⟩
theorem m_plain26 {sv : Nat → Int32} {L n : Nat} {lf : dlf} {g : cg} {o : cg × Option cv} {a b : Int} (h : zr sv L (n + 1) 21 26 lf [] g o) (h0 : lf 0 = (4, 253)) (h1 : lf 1 = (0, a)) (h2 : lf 2 = (0, b)) : (48 ≤ b ∧ (o = (cup (cup (cup (cup g 254 ((w32 (a + 3)).toNat) 5) 254 ((w32 ((w32 (a + 3)) + 1)).toNat) 2) 254 ((w32 (a + 5)).toNat) 10) 254 ((w32 (a + 7)).toNat) ((-1)), none))) ∨ (b < 48 ∧ (∃ lf'2, lf'2 0 = (4, 253) ∧ lf'2 1 = (0, a) ∧ lf'2 2 = (0, w32 (b + 1)) ∧ zr sv L n 21 26 lf'2 [] (cup g 254 ((w32 ((w32 (a + 51)) + b)).toNat) ((-1))) o)) := by
  rw [zov h0, zov h1, zov h2] at h
  have h := zm1 zy_21 h 2 (q := (cond (crel .ge b 48) 50 32, dset (dset (dset lf 2 (0, b)) 1 (0, a)) 0 (4, 253), [], g)) rfl
  dsimp only at h
  rcases zif_ge h with ⟨hc1, h⟩ | ⟨hc1, h⟩
  · refine Or.inl ⟨hc1, ?_⟩
    have h := zm zy_21 h 30 (q := (90, dset (dset (dset lf 2 (0, b)) 1 (0, a)) 0 (4, 253), [], cup (cup (cup (cup g 254 ((w32 (a + 3)).toNat) 5) 254 ((w32 ((w32 (a + 3)) + 1)).toNat) 2) 254 ((w32 (a + 5)).toNat) 10) 254 ((w32 (a + 7)).toNat) ((-1)))) rfl
    dsimp only at h
    exact zret zy_21 h rfl rfl
  · refine Or.inr ⟨hc1, ?_⟩
    have h := zm zy_21 h 11 (q := (26, dset (dset (dset (dset lf 2 (0, b)) 1 (0, a)) 0 (4, 253)) 2 (0, w32 (b + 1)), [], cup g 254 ((w32 ((w32 (a + 51)) + b)).toNat) ((-1)))) rfl
    dsimp only at h
    exact ⟨_, rfl, rfl, rfl, h⟩
theorem m_court59 {sv : Nat → Int32} {L n : Nat} {lf : dlf} {g : cg} {o : cg × Option cv} {b : Int} (h : zr sv L (n + 1) 274 59 lf [] g o) (h0 : lf 0 = (4, 253)) (h3 : lf 3 = (0, b)) : (744 ≤ b ∧ (∃ lf'2, lf'2 0 = (4, 253) ∧ lf'2 3 = (0, 0) ∧ zr sv L n 274 90 lf'2 [] g o)) ∨ (b < 744 ∧ (0 ≤ w32 (2976 + b) → w32 (2976 + b) < 5208 → (∃ lf'5, lf'5 0 = (4, 253) ∧ lf'5 3 = (0, w32 (b + 1)) ∧ zr sv L n 274 59 lf'5 [] (cup g 254 ((b).toNat) (g 254 ((w32 (2976 + b)).toNat))) o))) := by
  rw [zov h0, zov h3] at h
  have h := zm1 zy_274 h 2 (q := (cond (crel .ge b 744) 88 66, dset (dset lf 3 (0, b)) 0 (4, 253), [], g)) rfl
  dsimp only at h
  rcases zif_ge h with ⟨hc1, h⟩ | ⟨hc1, h⟩
  · refine Or.inl ⟨hc1, ?_⟩
    have h := zm zy_274 h 2 (q := (90, dset (dset (dset lf 3 (0, b)) 0 (4, 253)) 3 (0, 0), [], g)) rfl
    dsimp only at h
    exact ⟨_, rfl, rfl, h⟩
  · refine Or.inr ⟨hc1, ?_⟩
    intro ha3 hb4
    have h := zm zy_274 h 8 (q := (80, dset (dset lf 3 (0, b)) 0 (4, 253), [(0, w32 (2976 + b)), (4, 254), (0, b), (4, 254)], g)) rfl
    dsimp only at h
    have h := zald zy_274 h rfl rfl (dvb_254 ha3 hb4)
    have h : zr sv L n 274 81 (dset (dset lf 3 (0, b)) 0 (4, 253)) [(0, g 254 ((w32 (2976 + b)).toNat)), (0, b), (4, 254)] (g) o := by first | exact h | (rw [cup_at] at h; exact h) | ((repeat rw [cup_ne (by omega)] at h); exact h)
    have h := zm zy_274 h 3 (q := (59, dset (dset (dset lf 3 (0, b)) 0 (4, 253)) 3 (0, w32 (b + 1)), [], cup g 254 ((b).toNat) (g 254 ((w32 (2976 + b)).toNat)))) rfl
    dsimp only at h
    exact ⟨_, rfl, rfl, h⟩
theorem m_court90 {sv : Nat → Int32} {L n : Nat} {lf : dlf} {g : cg} {o : cg × Option cv} {b : Int} (h : zr sv L (n + 1) 274 90 lf [] g o) (h0 : lf 0 = (4, 253)) (h3 : lf 3 = (0, b)) : (12 ≤ b ∧ (∃ lf'2, lf'2 0 = (4, 253) ∧ zr sv L n 274 117 lf'2 [] g o)) ∨ (b < 12 ∧ (0 ≤ w32 (48 + b) → w32 (48 + b) < 72 → (∃ lf'5, lf'5 0 = (4, 253) ∧ lf'5 3 = (0, w32 (b + 1)) ∧ zr sv L n 274 90 lf'5 [] (cup g 255 ((b).toNat) (g 255 ((w32 (48 + b)).toNat))) o))) := by
  rw [zov h0, zov h3] at h
  have h := zm1 zy_274 h 2 (q := (cond (crel .ge b 12) 117 96, dset (dset lf 3 (0, b)) 0 (4, 253), [], g)) rfl
  dsimp only at h
  rcases zif_ge h with ⟨hc1, h⟩ | ⟨hc1, h⟩
  · refine Or.inl ⟨hc1, ?_⟩
    exact ⟨_, rfl, h⟩
  · refine Or.inr ⟨hc1, ?_⟩
    intro ha3 hb4
    have h := zm zy_274 h 8 (q := (109, dset (dset lf 3 (0, b)) 0 (4, 253), [(0, w32 (48 + b)), (4, 255), (0, b), (4, 255)], g)) rfl
    dsimp only at h
    have h := zald zy_274 h rfl rfl (dvb_255 ha3 hb4)
    have h : zr sv L n 274 110 (dset (dset lf 3 (0, b)) 0 (4, 253)) [(2, g 255 ((w32 (48 + b)).toNat)), (0, b), (4, 255)] (g) o := by first | exact h | (rw [cup_at] at h; exact h) | ((repeat rw [cup_ne (by omega)] at h); exact h)
    have h := zm zy_274 h 3 (q := (90, dset (dset (dset lf 3 (0, b)) 0 (4, 253)) 3 (0, w32 (b + 1)), [], cup g 255 ((b).toNat) (g 255 ((w32 (48 + b)).toNat)))) rfl
    dsimp only at h
    exact ⟨_, rfl, rfl, h⟩
theorem m_court117 {sv : Nat → Int32} {L n : Nat} {lf : dlf} {g : cg} {o : cg × Option cv} (h : zr sv L n 274 117 lf [] g o) (h0 : lf 0 = (4, 253)) : ∃ g1 r2, zr sv L n 191 0 (darg 0 [(4, 253), (0, g 254 1)]) [] g (g1, some (0, r2)) ∧ (o = (g1, some (0, r2))) := by
  rw [zov h0] at h
  have h := zm zy_274 h 5 (q := (124, dset lf 0 (4, 253), [(0, g 254 1), (4, 253)], g)) rfl
  dsimp only at h
  obtain ⟨g1, r2, hk, h⟩ := zcallI zy_274 h rfl rfl zy_191 zk_191
  dsimp only at hk h
  refine ⟨g1, r2, hk, ?_⟩
  exact zret zy_274 h rfl rfl
end
