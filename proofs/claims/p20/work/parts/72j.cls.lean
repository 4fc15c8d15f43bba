/-! what the class's reader of a court says: printed by program (wip/tools/zcls.py) -/
section
set_option maxRecDepth 100000
theorem zy_23 : xg xcode 23 = some xt_23 := rfl
theorem zk_23 : zkc 1 xt_23 = true := by decide +kernel
theorem zy_29 : xg xcode 29 = some xt_29 := rfl
theorem zk_29 : zkc 1 xt_29 = true := by decide +kernel
theorem zy_32 : xg xcode 32 = some xt_32 := rfl
theorem zk_32 : zkc 1 xt_32 = true := by decide +kernel
theorem zy_33 : xg xcode 33 = some xt_33 := rfl
theorem zk_33 : zkc 0 xt_33 = true := by decide +kernel
theorem zy_34 : xg xcode 34 = some xt_34 := rfl
theorem zk_34 : zkc 0 xt_34 = true := by decide +kernel
theorem zy_35 : xg xcode 35 = some xt_35 := rfl
theorem zk_35 : zkc 0 xt_35 = true := by decide +kernel
theorem zy_38 : xg xcode 38 = some xt_38 := rfl
theorem zk_38 : zkc 1 xt_38 = true := by decide +kernel
theorem zy_40 : xg xcode 40 = some xt_40 := rfl
theorem zk_40 : zkc 1 xt_40 = true := by decide +kernel
theorem zy_43 : xg xcode 43 = some xt_43 := rfl
theorem zk_43 : zkc 1 xt_43 = true := by decide +kernel
theorem zy_44 : xg xcode 44 = some xt_44 := rfl
theorem zk_44 : zkc 1 xt_44 = true := by decide +kernel
theorem zy_45 : xg xcode 45 = some xt_45 := rfl
theorem zk_45 : zkc 1 xt_45 = true := by decide +kernel
theorem zy_47 : xg xcode 47 = some xt_47 := rfl
theorem zk_47 : zkc 1 xt_47 = true := by decide +kernel
theorem zy_48 : xg xcode 48 = some xt_48 := rfl
theorem zk_48 : zkc 1 xt_48 = true := by decide +kernel
theorem zy_49 : xg xcode 49 = some xt_49 := rfl
theorem zk_49 : zkc 1 xt_49 = true := by decide +kernel
theorem zy_51 : xg xcode 51 = some xt_51 := rfl
theorem zk_51 : zkc 0 xt_51 = true := by decide +kernel
theorem zy_52 : xg xcode 52 = some xt_52 := rfl
theorem zk_52 : zkc 1 xt_52 = true := by decide +kernel
theorem zy_53 : xg xcode 53 = some xt_53 := rfl
theorem zk_53 : zkc 1 xt_53 = true := by decide +kernel
theorem zy_54 : xg xcode 54 = some xt_54 := rfl
theorem zk_54 : zkc 1 xt_54 = true := by decide +kernel
theorem zy_55 : xg xcode 55 = some xt_55 := rfl
theorem zk_55 : zkc 1 xt_55 = true := by decide +kernel
theorem zy_56 : xg xcode 56 = some xt_56 := rfl
theorem zk_56 : zkc 0 xt_56 = true := by decide +kernel
theorem zy_58 : xg xcode 58 = some xt_58 := rfl
theorem zk_58 : zkc 1 xt_58 = true := by decide +kernel
theorem zy_59 : xg xcode 59 = some xt_59 := rfl
theorem zk_59 : zkc 0 xt_59 = true := by decide +kernel
theorem zy_64 : xg xcode 64 = some xt_64 := rfl
theorem zk_64 : zkc 1 xt_64 = true := by decide +kernel
theorem zy_273 : xg xcode 273 = some xt_273 := rfl
theorem zk_273 : zkc 1 xt_273 = true := by decide +kernel
theorem ztab_0_13 {z : Int} : z = 0 ∨ z = 1 ∨ z = 2 ∨ z = 3 ∨ z = 4 ∨ z = 5 ∨ z = 6 ∨ z = 7 ∨ z = 8 ∨ z = 9 ∨ z = 10 ∨ z = 11 ∨ z = 12 ∨ z = 13 ∨ (z < 0 ∨ 13 < z) := by omega
theorem dvp_48 {g : cg} {i : Int} (h0 : 0 ≤ i) (h1 : i < 6) : dval xh2 g 48 i.toNat = (4, 59 + 2 * i) := by
  rcases (show i = 0 ∨ i = 1 ∨ i = 2 ∨ i = 3 ∨ i = 4 ∨ i = 5 from by omega) with e | e | e | e | e | e <;> subst e <;> rfl
theorem dvf_59_0 {g : cg} {i : Int} (h0 : 0 ≤ i) (h1 : i < 6) : dval xh2 g (59 + 2 * i).toNat 0 = (2, g (59 + 2 * i).toNat 0) := by
  rcases (show i = 0 ∨ i = 1 ∨ i = 2 ∨ i = 3 ∨ i = 4 ∨ i = 5 from by omega) with e | e | e | e | e | e <;> subst e <;> rfl
theorem dvf_59_1 {g : cg} {i : Int} (h0 : 0 ≤ i) (h1 : i < 6) : dval xh2 g (59 + 2 * i).toNat 1 = (0, g (59 + 2 * i).toNat 1) := by
  rcases (show i = 0 ∨ i = 1 ∨ i = 2 ∨ i = 3 ∨ i = 4 ∨ i = 5 from by omega) with e | e | e | e | e | e <;> subst e <;> rfl
theorem dvf_59_4 {g : cg} {i : Int} (h0 : 0 ≤ i) (h1 : i < 6) : dval xh2 g (59 + 2 * i).toNat 4 = (0, g (59 + 2 * i).toNat 4) := by
  rcases (show i = 0 ∨ i = 1 ∨ i = 2 ∨ i = 3 ∨ i = 4 ∨ i = 5 from by omega) with e | e | e | e | e | e <;> subst e <;> rfl
theorem dvf_59_5 {g : cg} {i : Int} (h0 : 0 ≤ i) (h1 : i < 6) : dval xh2 g (59 + 2 * i).toNat 5 = (0, g (59 + 2 * i).toNat 5) := by
  rcases (show i = 0 ∨ i = 1 ∨ i = 2 ∨ i = 3 ∨ i = 4 ∨ i = 5 from by omega) with e | e | e | e | e | e <;> subst e <;> rfl
theorem dvf_59_6 {g : cg} {i : Int} (h0 : 0 ≤ i) (h1 : i < 6) : dval xh2 g (59 + 2 * i).toNat 6 = (4, 60 + 2 * i) := by
  rcases (show i = 0 ∨ i = 1 ∨ i = 2 ∨ i = 3 ∨ i = 4 ∨ i = 5 from by omega) with e | e | e | e | e | e <;> subst e <;> rfl
theorem dvb_47 {g : cg} {i : Int} (h0 : 0 ≤ i) (h1 : i < 5) : dval xh2 g 47 i.toNat = (2, g 47 i.toNat) := dvbL (show zck 47 14 5 = true by decide +kernel) (by decide) h0 h1
theorem t_plcNamed0 {sv : Nat → Int32} {L n : Nat} {lf : dlf} {g : cg} {o : cg × Option cv} {a : Int} (h : zr sv L n 48 0 lf [] g o) (h0 : lf 0 = (4, 45)) (h1 : lf 1 = (2, a)) : ∃ lf'1, lf'1 0 = (4, 45) ∧ lf'1 1 = (2, a) ∧ lf'1 3 = (0, 0) ∧ zr sv L n 48 2 lf'1 [] g o := by
  rw [zov h0, zov h1] at h
  have h := zm zy_48 h 2 (q := (2, dset (dset (dset lf 1 (2, a)) 0 (4, 45)) 3 (0, 0), [], g)) rfl
  dsimp only at h
  exact ⟨_, rfl, rfl, rfl, h⟩
theorem t_plcNamed2 {sv : Nat → Int32} {L n : Nat} {lf : dlf} {g : cg} {o : cg × Option cv} {a b : Int} (h : zr sv L (n + 1) 48 2 lf [] g o) (h0 : lf 0 = (4, 45)) (h1 : lf 1 = (2, a)) (h3 : lf 3 = (0, b)) : (g 45 0 ≤ b ∧ (o = (g, some (0, (-1))))) ∨ (b < g 45 0 ∧ (0 ≤ b → b < 5 → ((csgn ((g 47 ((b).toNat)) - a) ≠ 0 ∧ (∃ lf'5, lf'5 0 = (4, 45) ∧ lf'5 1 = (2, a) ∧ lf'5 3 = (0, w32 (b + 1)) ∧ zr sv L n 48 2 lf'5 [] g o)) ∨ (csgn ((g 47 ((b).toNat)) - a) = 0 ∧ (o = (g, some (0, b))))))) := by
  rw [zov h0, zov h1, zov h3] at h
  have h := zm1 zy_48 h 3 (q := (cond (crel .ge b (g 45 0)) 29 10, dset (dset (dset lf 3 (0, b)) 1 (2, a)) 0 (4, 45), [], g)) rfl
  dsimp only at h
  rcases zif_ge h with ⟨hc1, h⟩ | ⟨hc1, h⟩
  · refine Or.inl ⟨hc1, ?_⟩
    have h := zm zy_48 h 1 (q := (30, dset (dset (dset lf 3 (0, b)) 1 (2, a)) 0 (4, 45), [(0, (-1))], g)) rfl
    dsimp only at h
    exact zret zy_48 h rfl rfl
  · refine Or.inr ⟨hc1, ?_⟩
    intro ha2 hb3
    have h := zm zy_48 h 3 (q := (15, dset (dset (dset lf 3 (0, b)) 1 (2, a)) 0 (4, 45), [(0, b), (4, 47)], g)) rfl
    dsimp only at h
    have h := zald zy_48 h rfl rfl (dvb_47 ha2 hb3)
    have h : zr sv L n 48 16 (dset (dset (dset lf 3 (0, b)) 1 (2, a)) 0 (4, 45)) [(2, g 47 ((b).toNat))] (g) o := h
    have h := zm zy_48 h 3 (q := (cond (crel .ne (csgn ((g 47 ((b).toNat)) - a)) 0) 23 21, dset (dset (dset lf 3 (0, b)) 1 (2, a)) 0 (4, 45), [], g)) rfl
    dsimp only at h
    rcases zif_ne h with ⟨hc4, h⟩ | ⟨hc4, h⟩
    · refine Or.inl ⟨hc4, ?_⟩
      have h := zm zy_48 h 2 (q := (2, dset (dset (dset (dset lf 3 (0, b)) 1 (2, a)) 0 (4, 45)) 3 (0, w32 (b + 1)), [], g)) rfl
      dsimp only at h
      exact ⟨_, rfl, rfl, rfl, h⟩
    · refine Or.inr ⟨hc4, ?_⟩
      have h := zm zy_48 h 1 (q := (22, dset (dset (dset lf 3 (0, b)) 1 (2, a)) 0 (4, 45), [(0, b)], g)) rfl
      dsimp only at h
      exact zret zy_48 h rfl rfl
theorem t_perNamed0 {sv : Nat → Int32} {L n : Nat} {lf : dlf} {g : cg} {o : cg × Option cv} {a : Int} (h : zr sv L n 45 0 lf [] g o) (h0 : lf 0 = (4, 45)) (h1 : lf 1 = (2, a)) : ∃ lf'1, lf'1 0 = (4, 45) ∧ lf'1 1 = (2, a) ∧ lf'1 3 = (0, 0) ∧ zr sv L n 45 2 lf'1 [] g o := by
  rw [zov h0, zov h1] at h
  have h := zm zy_45 h 2 (q := (2, dset (dset (dset lf 1 (2, a)) 0 (4, 45)) 3 (0, 0), [], g)) rfl
  dsimp only at h
  exact ⟨_, rfl, rfl, rfl, h⟩
theorem t_perNamed2 {sv : Nat → Int32} {L n : Nat} {lf : dlf} {g : cg} {o : cg × Option cv} {a b : Int} (h : zr sv L (n + 1) 45 2 lf [] g o) (h0 : lf 0 = (4, 45)) (h1 : lf 1 = (2, a)) (h3 : lf 3 = (0, b)) : (g 45 3 ≤ b ∧ (o = (g, some (0, (-1))))) ∨ (b < g 45 3 ∧ (0 ≤ b → b < 6 → ((csgn ((g ((59 + 2 * b).toNat) 0) - a) ≠ 0 ∧ (∃ lf'5, lf'5 0 = (4, 45) ∧ lf'5 1 = (2, a) ∧ lf'5 3 = (0, w32 (b + 1)) ∧ zr sv L n 45 2 lf'5 [] g o)) ∨ (csgn ((g ((59 + 2 * b).toNat) 0) - a) = 0 ∧ (o = (g, some (0, b))))))) := by
  rw [zov h0, zov h1, zov h3] at h
  have h := zm1 zy_45 h 3 (q := (cond (crel .ge b (g 45 3)) 32 10, dset (dset (dset lf 3 (0, b)) 1 (2, a)) 0 (4, 45), [], g)) rfl
  dsimp only at h
  rcases zif_ge h with ⟨hc1, h⟩ | ⟨hc1, h⟩
  · refine Or.inl ⟨hc1, ?_⟩
    have h := zm zy_45 h 1 (q := (33, dset (dset (dset lf 3 (0, b)) 1 (2, a)) 0 (4, 45), [(0, (-1))], g)) rfl
    dsimp only at h
    exact zret zy_45 h rfl rfl
  · refine Or.inr ⟨hc1, ?_⟩
    intro ha2 hb3
    have h := zm zy_45 h 3 (q := (15, dset (dset (dset lf 3 (0, b)) 1 (2, a)) 0 (4, 45), [(0, b), (4, 48)], g)) rfl
    dsimp only at h
    have h := zald zy_45 h rfl rfl (dvp_48 ha2 hb3)
    have h := zgf zy_45 h rfl rfl (dvf_59_0 ha2 hb3)
    have h : zr sv L n 45 19 (dset (dset (dset lf 3 (0, b)) 1 (2, a)) 0 (4, 45)) [(2, g ((59 + 2 * b).toNat) 0)] (g) o := by first | exact h | (rw [cup_at] at h; exact h)
    have h := zm zy_45 h 3 (q := (cond (crel .ne (csgn ((g ((59 + 2 * b).toNat) 0) - a)) 0) 26 24, dset (dset (dset lf 3 (0, b)) 1 (2, a)) 0 (4, 45), [], g)) rfl
    dsimp only at h
    rcases zif_ne h with ⟨hc4, h⟩ | ⟨hc4, h⟩
    · refine Or.inl ⟨hc4, ?_⟩
      have h := zm zy_45 h 2 (q := (2, dset (dset (dset (dset lf 3 (0, b)) 1 (2, a)) 0 (4, 45)) 3 (0, w32 (b + 1)), [], g)) rfl
      dsimp only at h
      exact ⟨_, rfl, rfl, rfl, h⟩
    · refine Or.inr ⟨hc4, ?_⟩
      have h := zm zy_45 h 1 (q := (25, dset (dset (dset lf 3 (0, b)) 1 (2, a)) 0 (4, 45), [(0, b)], g)) rfl
      dsimp only at h
      exact zret zy_45 h rfl rfl
theorem t_passPer {sv : Nat → Int32} {L n : Nat} {lf : dlf} {g : cg} {o : cg × Option cv} (h : zr sv L n 44 0 lf [] g o) (h0 : lf 0 = (4, 88)) (h1 : lf 1 = (4, 45)) : (g 88 4 ≠ 2 ∧ (∃ lf'2, lf'2 0 = (4, 88) ∧ lf'2 2 = (0, (-1)) ∧ zr sv L n 44 21 lf'2 [] g o)) ∨ (g 88 4 = 2 ∧ (∃ g3 r4, zr sv L n 45 0 (darg 0 [(4, 45), (2, g 88 6)]) [] g (g3, some (0, r4)) ∧ (∃ lf'5, lf'5 0 = (4, 88) ∧ lf'5 2 = (0, r4) ∧ zr sv L n 44 21 lf'5 [] g3 o))) := by
  rw [zov h0, zov h1] at h
  have h := zm zy_44 h 4 (q := (cond (crel .ne (g 88 4) 2) 19 8, dset (dset lf 1 (4, 45)) 0 (4, 88), [], g)) rfl
  dsimp only at h
  rcases zif_ne h with ⟨hc1, h⟩ | ⟨hc1, h⟩
  · refine Or.inl ⟨hc1, ?_⟩
    have h := zm zy_44 h 2 (q := (21, dset (dset (dset lf 1 (4, 45)) 0 (4, 88)) 2 (0, (-1)), [], g)) rfl
    dsimp only at h
    exact ⟨_, rfl, rfl, h⟩
  · refine Or.inr ⟨hc1, ?_⟩
    have h := zm zy_44 h 3 (q := (13, dset (dset lf 1 (4, 45)) 0 (4, 88), [(2, g 88 6), (4, 45)], g)) rfl
    dsimp only at h
    obtain ⟨g3, r4, hk, h⟩ := zcallI zy_44 h rfl rfl zy_45 zk_45
    dsimp only at hk h
    refine ⟨g3, r4, hk, ?_⟩
    have h := zm zy_44 h 2 (q := (21, dset (dset (dset lf 1 (4, 45)) 0 (4, 88)) 2 (0, r4), [], g3)) rfl
    dsimp only at h
    exact ⟨_, rfl, rfl, h⟩
theorem t_passPer21 {sv : Nat → Int32} {L n : Nat} {lf : dlf} {g : cg} {o : cg × Option cv} {a : Int} (h : zr sv L n 44 21 lf [] g o) (h0 : lf 0 = (4, 88)) (h2 : lf 2 = (0, a)) : (a ≠ (-1) ∧ (∃ g2, zr sv L n 37 0 (darg 0 [(4, 88)]) [] g (g2, none) ∧ (o = (g2, some (0, a))))) ∨ (a = (-1) ∧ ((g 88 4 ≠ 2 ∧ (∃ g4 r5, zr sv L n 39 0 (darg 0 [(4, 88), (0, 2)]) [] g (g4, some (0, r5)) ∧ (o = (g4, some (0, a))))) ∨ (g 88 4 = 2 ∧ (∃ g6 r7, zr sv L n 39 0 (darg 0 [(4, 88), (0, 3)]) [] g (g6, some (0, r7)) ∧ (o = (g6, some (0, a))))))) := by
  rw [zov h0, zov h2] at h
  have h := zm zy_44 h 3 (q := (cond (crel .ne a ((-1))) 47 26, dset (dset lf 2 (0, a)) 0 (4, 88), [], g)) rfl
  dsimp only at h
  rcases zif_ne h with ⟨hc1, h⟩ | ⟨hc1, h⟩
  · refine Or.inl ⟨hc1, ?_⟩
    have h := zm zy_44 h 1 (q := (48, dset (dset lf 2 (0, a)) 0 (4, 88), [(4, 88)], g)) rfl
    dsimp only at h
    obtain ⟨g2, hk, h⟩ := zcallV zy_44 h rfl rfl zy_37 zk_37
    dsimp only at hk h
    refine ⟨g2, hk, ?_⟩
    have h := zm zy_44 h 1 (q := (52, dset (dset lf 2 (0, a)) 0 (4, 88), [(0, a)], g2)) rfl
    dsimp only at h
    exact zret zy_44 h rfl rfl
  · refine Or.inr ⟨hc1, ?_⟩
    have h := zm zy_44 h 5 (q := (cond (crel .ne (g 88 4) 2) 39 35, dset (dset lf 2 (0, a)) 0 (4, 88), [(4, 88)], g)) rfl
    dsimp only at h
    rcases zif_ne h with ⟨hc3, h⟩ | ⟨hc3, h⟩
    · refine Or.inl ⟨hc3, ?_⟩
      have h := zm zy_44 h 1 (q := (40, dset (dset lf 2 (0, a)) 0 (4, 88), [(0, 2), (4, 88)], g)) rfl
      dsimp only at h
      obtain ⟨g4, r5, hk, h⟩ := zcallI zy_44 h rfl rfl zy_39 zk_39
      dsimp only at hk h
      refine ⟨g4, r5, hk, ?_⟩
      have h := zm zy_44 h 3 (q := (52, dset (dset lf 2 (0, a)) 0 (4, 88), [(0, a)], g4)) rfl
      dsimp only at h
      exact zret zy_44 h rfl rfl
    · refine Or.inr ⟨hc3, ?_⟩
      have h := zm zy_44 h 2 (q := (40, dset (dset lf 2 (0, a)) 0 (4, 88), [(0, 3), (4, 88)], g)) rfl
      dsimp only at h
      obtain ⟨g6, r7, hk, h⟩ := zcallI zy_44 h rfl rfl zy_39 zk_39
      dsimp only at hk h
      refine ⟨g6, r7, hk, ?_⟩
      have h := zm zy_44 h 3 (q := (52, dset (dset lf 2 (0, a)) 0 (4, 88), [(0, a)], g6)) rfl
      dsimp only at h
      exact zret zy_44 h rfl rfl
theorem t_passPlc {sv : Nat → Int32} {L n : Nat} {lf : dlf} {g : cg} {o : cg × Option cv} (h : zr sv L n 47 0 lf [] g o) (h0 : lf 0 = (4, 88)) (h1 : lf 1 = (4, 45)) : (g 88 4 ≠ 2 ∧ (∃ lf'2, lf'2 0 = (4, 88) ∧ lf'2 2 = (0, (-1)) ∧ zr sv L n 47 21 lf'2 [] g o)) ∨ (g 88 4 = 2 ∧ (∃ g3 r4, zr sv L n 48 0 (darg 0 [(4, 45), (2, g 88 6)]) [] g (g3, some (0, r4)) ∧ (∃ lf'5, lf'5 0 = (4, 88) ∧ lf'5 2 = (0, r4) ∧ zr sv L n 47 21 lf'5 [] g3 o))) := by
  rw [zov h0, zov h1] at h
  have h := zm zy_47 h 4 (q := (cond (crel .ne (g 88 4) 2) 19 8, dset (dset lf 1 (4, 45)) 0 (4, 88), [], g)) rfl
  dsimp only at h
  rcases zif_ne h with ⟨hc1, h⟩ | ⟨hc1, h⟩
  · refine Or.inl ⟨hc1, ?_⟩
    have h := zm zy_47 h 2 (q := (21, dset (dset (dset lf 1 (4, 45)) 0 (4, 88)) 2 (0, (-1)), [], g)) rfl
    dsimp only at h
    exact ⟨_, rfl, rfl, h⟩
  · refine Or.inr ⟨hc1, ?_⟩
    have h := zm zy_47 h 3 (q := (13, dset (dset lf 1 (4, 45)) 0 (4, 88), [(2, g 88 6), (4, 45)], g)) rfl
    dsimp only at h
    obtain ⟨g3, r4, hk, h⟩ := zcallI zy_47 h rfl rfl zy_48 zk_48
    dsimp only at hk h
    refine ⟨g3, r4, hk, ?_⟩
    have h := zm zy_47 h 2 (q := (21, dset (dset (dset lf 1 (4, 45)) 0 (4, 88)) 2 (0, r4), [], g3)) rfl
    dsimp only at h
    exact ⟨_, rfl, rfl, h⟩
theorem t_passPlc21 {sv : Nat → Int32} {L n : Nat} {lf : dlf} {g : cg} {o : cg × Option cv} {a : Int} (h : zr sv L n 47 21 lf [] g o) (h0 : lf 0 = (4, 88)) (h2 : lf 2 = (0, a)) : (a ≠ (-1) ∧ (∃ g2, zr sv L n 37 0 (darg 0 [(4, 88)]) [] g (g2, none) ∧ (o = (g2, some (0, a))))) ∨ (a = (-1) ∧ ((g 88 4 ≠ 2 ∧ (∃ g4 r5, zr sv L n 39 0 (darg 0 [(4, 88), (0, 2)]) [] g (g4, some (0, r5)) ∧ (o = (g4, some (0, a))))) ∨ (g 88 4 = 2 ∧ (∃ g6 r7, zr sv L n 39 0 (darg 0 [(4, 88), (0, 3)]) [] g (g6, some (0, r7)) ∧ (o = (g6, some (0, a))))))) := by
  rw [zov h0, zov h2] at h
  have h := zm zy_47 h 3 (q := (cond (crel .ne a ((-1))) 47 26, dset (dset lf 2 (0, a)) 0 (4, 88), [], g)) rfl
  dsimp only at h
  rcases zif_ne h with ⟨hc1, h⟩ | ⟨hc1, h⟩
  · refine Or.inl ⟨hc1, ?_⟩
    have h := zm zy_47 h 1 (q := (48, dset (dset lf 2 (0, a)) 0 (4, 88), [(4, 88)], g)) rfl
    dsimp only at h
    obtain ⟨g2, hk, h⟩ := zcallV zy_47 h rfl rfl zy_37 zk_37
    dsimp only at hk h
    refine ⟨g2, hk, ?_⟩
    have h := zm zy_47 h 1 (q := (52, dset (dset lf 2 (0, a)) 0 (4, 88), [(0, a)], g2)) rfl
    dsimp only at h
    exact zret zy_47 h rfl rfl
  · refine Or.inr ⟨hc1, ?_⟩
    have h := zm zy_47 h 5 (q := (cond (crel .ne (g 88 4) 2) 39 35, dset (dset lf 2 (0, a)) 0 (4, 88), [(4, 88)], g)) rfl
    dsimp only at h
    rcases zif_ne h with ⟨hc3, h⟩ | ⟨hc3, h⟩
    · refine Or.inl ⟨hc3, ?_⟩
      have h := zm zy_47 h 1 (q := (40, dset (dset lf 2 (0, a)) 0 (4, 88), [(0, 2), (4, 88)], g)) rfl
      dsimp only at h
      obtain ⟨g4, r5, hk, h⟩ := zcallI zy_47 h rfl rfl zy_39 zk_39
      dsimp only at hk h
      refine ⟨g4, r5, hk, ?_⟩
      have h := zm zy_47 h 3 (q := (52, dset (dset lf 2 (0, a)) 0 (4, 88), [(0, a)], g4)) rfl
      dsimp only at h
      exact zret zy_47 h rfl rfl
    · refine Or.inr ⟨hc3, ?_⟩
      have h := zm zy_47 h 2 (q := (40, dset (dset lf 2 (0, a)) 0 (4, 88), [(0, 3), (4, 88)], g)) rfl
      dsimp only at h
      obtain ⟨g6, r7, hk, h⟩ := zcallI zy_47 h rfl rfl zy_39 zk_39
      dsimp only at hk h
      refine ⟨g6, r7, hk, ?_⟩
      have h := zm zy_47 h 3 (q := (52, dset (dset lf 2 (0, a)) 0 (4, 88), [(0, a)], g6)) rfl
      dsimp only at h
      exact zret zy_47 h rfl rfl
theorem t_isNew {sv : Nat → Int32} {L n : Nat} {lf : dlf} {g : cg} {o : cg × Option cv} (h : zr sv L n 55 0 lf [] g o) (h0 : lf 0 = (4, 90)) : (g 88 4 = 2 ∧ (∃ g2 r3, zr sv L n 48 0 (darg 0 [(4, 45), (2, g 88 6)]) [] g (g2, some (0, r3)) ∧ ((r3 ≠ (-1) ∧ (∃ g5 r6, zr sv L n 39 0 (darg 0 [(4, 88), (0, 3)]) [] g2 (g5, some (0, r6)) ∧ (o = (g5, some (0, r6))))) ∨ (r3 = (-1) ∧ (∃ g7 r8, zr sv L n 45 0 (darg 0 [(4, 45), (2, g2 88 6)]) [] g2 (g7, some (0, r8)) ∧ ((r8 = (-1) ∧ (o = (g7, some (0, 1)))) ∨ (r8 ≠ (-1) ∧ (∃ g10 r11, zr sv L n 39 0 (darg 0 [(4, 88), (0, 3)]) [] g7 (g10, some (0, r11)) ∧ (o = (g10, some (0, r11))))))))))) ∨ (g 88 4 ≠ 2 ∧ (∃ g12 r13, zr sv L n 39 0 (darg 0 [(4, 88), (0, 2)]) [] g (g12, some (0, r13)) ∧ (o = (g12, some (0, r13))))) := by
  rw [zov h0] at h
  have h := zm zy_55 h 5 (q := (cond (crel .eq (g 88 4) 2) 20 11, dset lf 0 (4, 90), [], g)) rfl
  dsimp only at h
  rcases zif_eq h with ⟨hc1, h⟩ | ⟨hc1, h⟩
  · refine Or.inl ⟨hc1, ?_⟩
    have h := zm zy_55 h 5 (q := (31, dset lf 0 (4, 90), [(2, g 88 6), (4, 45)], g)) rfl
    dsimp only at h
    obtain ⟨g2, r3, hk, h⟩ := zcallI zy_55 h rfl rfl zy_48 zk_48
    dsimp only at hk h
    refine ⟨g2, r3, hk, ?_⟩
    have h := zm zy_55 h 2 (q := (cond (crel .ne r3 ((-1))) 56 38, dset lf 0 (4, 90), [], g2)) rfl
    dsimp only at h
    rcases zif_ne h with ⟨hc4, h⟩ | ⟨hc4, h⟩
    · refine Or.inl ⟨hc4, ?_⟩
      have h := zm zy_55 h 3 (q := (61, dset lf 0 (4, 90), [(0, 3), (4, 88)], g2)) rfl
      dsimp only at h
      obtain ⟨g5, r6, hk, h⟩ := zcallI zy_55 h rfl rfl zy_39 zk_39
      dsimp only at hk h
      refine ⟨g5, r6, hk, ?_⟩
      exact zret zy_55 h rfl rfl
    · refine Or.inr ⟨hc4, ?_⟩
      have h := zm zy_55 h 5 (q := (49, dset lf 0 (4, 90), [(2, g2 88 6), (4, 45)], g2)) rfl
      dsimp only at h
      obtain ⟨g7, r8, hk, h⟩ := zcallI zy_55 h rfl rfl zy_45 zk_45
      dsimp only at hk h
      refine ⟨g7, r8, hk, ?_⟩
      have h := zm zy_55 h 2 (q := (cond (crel .eq r8 ((-1))) 65 56, dset lf 0 (4, 90), [], g7)) rfl
      dsimp only at h
      rcases zif_eq h with ⟨hc9, h⟩ | ⟨hc9, h⟩
      · refine Or.inl ⟨hc9, ?_⟩
        have h := zm zy_55 h 1 (q := (66, dset lf 0 (4, 90), [(0, 1)], g7)) rfl
        dsimp only at h
        exact zret zy_55 h rfl rfl
      · refine Or.inr ⟨hc9, ?_⟩
        have h := zm zy_55 h 3 (q := (61, dset lf 0 (4, 90), [(0, 3), (4, 88)], g7)) rfl
        dsimp only at h
        obtain ⟨g10, r11, hk, h⟩ := zcallI zy_55 h rfl rfl zy_39 zk_39
        dsimp only at hk h
        refine ⟨g10, r11, hk, ?_⟩
        exact zret zy_55 h rfl rfl
  · refine Or.inr ⟨hc1, ?_⟩
    have h := zm zy_55 h 3 (q := (16, dset lf 0 (4, 90), [(0, 2), (4, 88)], g)) rfl
    dsimp only at h
    obtain ⟨g12, r13, hk, h⟩ := zcallI zy_55 h rfl rfl zy_39 zk_39
    dsimp only at hk h
    refine ⟨g12, r13, hk, ?_⟩
    exact zret zy_55 h rfl rfl
theorem t_takePlc {sv : Nat → Int32} {L n : Nat} {lf : dlf} {g : cg} {o : cg × Option cv} (h : zr sv L n 58 0 lf [] g o) (h0 : lf 0 = (4, 90)) : (g 45 0 < 5 ∧ (∃ g2, zr sv L n 37 0 (darg 0 [(4, 88)]) [] g (g2, none) ∧ (∃ g3 r4, zr sv L n 55 0 (darg 0 [(4, 90)]) [] g2 (g3, some (0, r4)) ∧ ((r4 ≠ 0 ∧ (∃ g6, zr sv L n 37 0 (darg 0 [(4, 88)]) [] (cup g3 47 ((g3 45 0).toNat) (g3 88 6)) (g6, none) ∧ (∃ g7 r8, zr sv L n 46 0 (darg 0 [(4, 88), (0, 1)]) [] g6 (g7, some (0, r8)) ∧ ((r8 ≠ 0 ∧ (∃ g10 r11, zr sv L n 41 0 (darg 0 [(4, 88), (0, 0), (0, 60)]) [] g7 (g10, some (0, r11)) ∧ ((r11 = (-1) ∧ (o = (g10, some (0, 0)))) ∨ (r11 ≠ (-1) ∧ (∃ g13 r14, zr sv L n 42 0 (darg 0 [(4, 88)]) [] g10 (g13, some (0, r14)) ∧ ((r14 ≠ 0 ∧ (o = (cup (cup g13 46 ((g13 45 0).toNat) r11) 45 0 (w32 ((g13 45 0) + 1)), some (0, 1)))) ∨ (r14 = 0 ∧ (o = (g13, some (0, 0)))))))))) ∨ (r8 = 0 ∧ (o = (g7, some (0, 0)))))))) ∨ (r4 = 0 ∧ (o = (g3, some (0, 0)))))))) ∨ (5 ≤ g 45 0 ∧ (∃ g16 r17, zr sv L n 39 0 (darg 0 [(4, 88), (0, 6)]) [] g (g16, some (0, r17)) ∧ (o = (g16, some (0, r17))))) := by
  rw [zov h0] at h
  have h := zm zy_58 h 5 (q := (cond (crel .lt (g 45 0) 5) 21 11, dset lf 0 (4, 90), [], g)) rfl
  dsimp only at h
  rcases zif_lt h with ⟨hc1, h⟩ | ⟨hc1, h⟩
  · refine Or.inl ⟨hc1, ?_⟩
    have h := zm zy_58 h 2 (q := (25, dset lf 0 (4, 90), [(4, 88)], g)) rfl
    dsimp only at h
    obtain ⟨g2, hk, h⟩ := zcallV zy_58 h rfl rfl zy_37 zk_37
    dsimp only at hk h
    refine ⟨g2, hk, ?_⟩
    have h := zm zy_58 h 1 (q := (29, dset lf 0 (4, 90), [(4, 90)], g2)) rfl
    dsimp only at h
    obtain ⟨g3, r4, hk, h⟩ := zcallI zy_58 h rfl rfl zy_55 zk_55
    dsimp only at hk h
    refine ⟨g3, r4, hk, ?_⟩
    have h := zm zy_58 h 1 (q := (cond (crel .ne r4 0) 37 35, dset lf 0 (4, 90), [], g3)) rfl
    dsimp only at h
    rcases zif_ne h with ⟨hc5, h⟩ | ⟨hc5, h⟩
    · refine Or.inl ⟨hc5, ?_⟩
      have h := zm zy_58 h 12 (q := (63, dset lf 0 (4, 90), [(4, 88)], cup g3 47 ((g3 45 0).toNat) (g3 88 6))) rfl
      dsimp only at h
      obtain ⟨g6, hk, h⟩ := zcallV zy_58 h rfl rfl zy_37 zk_37
      dsimp only at hk h
      refine ⟨g6, hk, ?_⟩
      have h := zm zy_58 h 3 (q := (71, dset lf 0 (4, 90), [(0, 1), (4, 88)], g6)) rfl
      dsimp only at h
      obtain ⟨g7, r8, hk, h⟩ := zcallI zy_58 h rfl rfl zy_46 zk_46
      dsimp only at hk h
      refine ⟨g7, r8, hk, ?_⟩
      have h := zm zy_58 h 1 (q := (cond (crel .ne r8 0) 79 77, dset lf 0 (4, 90), [], g7)) rfl
      dsimp only at h
      rcases zif_ne h with ⟨hc9, h⟩ | ⟨hc9, h⟩
      · refine Or.inl ⟨hc9, ?_⟩
        have h := zm zy_58 h 4 (q := (86, dset lf 0 (4, 90), [(0, 60), (0, 0), (4, 88)], g7)) rfl
        dsimp only at h
        obtain ⟨g10, r11, hk, h⟩ := zcallI zy_58 h rfl rfl zy_41 zk_41
        dsimp only at hk h
        refine ⟨g10, r11, hk, ?_⟩
        have h := zm zy_58 h 4 (q := (cond (crel .eq r11 ((-1))) 105 95, dset (dset lf 0 (4, 90)) 1 (0, r11), [], g10)) rfl
        dsimp only at h
        rcases zif_eq h with ⟨hc12, h⟩ | ⟨hc12, h⟩
        · refine Or.inl ⟨hc12, ?_⟩
          have h := zm zy_58 h 1 (q := (106, dset (dset lf 0 (4, 90)) 1 (0, r11), [(0, 0)], g10)) rfl
          dsimp only at h
          exact zret zy_58 h rfl rfl
        · refine Or.inr ⟨hc12, ?_⟩
          have h := zm zy_58 h 2 (q := (99, dset (dset lf 0 (4, 90)) 1 (0, r11), [(4, 88)], g10)) rfl
          dsimp only at h
          obtain ⟨g13, r14, hk, h⟩ := zcallI zy_58 h rfl rfl zy_42 zk_42
          dsimp only at hk h
          refine ⟨g13, r14, hk, ?_⟩
          have h := zm zy_58 h 1 (q := (cond (crel .ne r14 0) 107 105, dset (dset lf 0 (4, 90)) 1 (0, r11), [], g13)) rfl
          dsimp only at h
          rcases zif_ne h with ⟨hc15, h⟩ | ⟨hc15, h⟩
          · refine Or.inl ⟨hc15, ?_⟩
            have h := zm zy_58 h 16 (q := (137, dset (dset lf 0 (4, 90)) 1 (0, r11), [(0, 1)], cup (cup g13 46 ((g13 45 0).toNat) r11) 45 0 (w32 ((g13 45 0) + 1)))) rfl
            dsimp only at h
            exact zret zy_58 h rfl rfl
          · refine Or.inr ⟨hc15, ?_⟩
            have h := zm zy_58 h 1 (q := (106, dset (dset lf 0 (4, 90)) 1 (0, r11), [(0, 0)], g13)) rfl
            dsimp only at h
            exact zret zy_58 h rfl rfl
      · refine Or.inr ⟨hc9, ?_⟩
        have h := zm zy_58 h 1 (q := (78, dset lf 0 (4, 90), [(0, 0)], g7)) rfl
        dsimp only at h
        exact zret zy_58 h rfl rfl
    · refine Or.inr ⟨hc5, ?_⟩
      have h := zm zy_58 h 1 (q := (36, dset lf 0 (4, 90), [(0, 0)], g3)) rfl
      dsimp only at h
      exact zret zy_58 h rfl rfl
  · refine Or.inr ⟨hc1, ?_⟩
    have h := zm zy_58 h 3 (q := (17, dset lf 0 (4, 90), [(0, 6), (4, 88)], g)) rfl
    dsimp only at h
    obtain ⟨g16, r17, hk, h⟩ := zcallI zy_58 h rfl rfl zy_39 zk_39
    dsimp only at hk h
    refine ⟨g16, r17, hk, ?_⟩
    exact zret zy_58 h rfl rfl
theorem t_begin0 {sv : Nat → Int32} {L n : Nat} {lf : dlf} {g : cg} {o : cg × Option cv} {i a : Int} (h : zr sv L n 56 0 lf [] g o) (h0 : lf 0 = (4, 59 + 2 * i)) (h1 : lf 1 = (2, a)) : ∃ lf'1, lf'1 0 = (4, 59 + 2 * i) ∧ lf'1 3 = (0, 0) ∧ zr sv L n 56 32 lf'1 [] (cup (cup (cup (cup (cup (cup g ((59 + 2 * i).toNat) 0 a) ((59 + 2 * i).toNat) 1 0) ((59 + 2 * i).toNat) 2 0) ((59 + 2 * i).toNat) 3 0) ((59 + 2 * i).toNat) 4 ((-1))) ((59 + 2 * i).toNat) 5 0) o := by
  rw [zov h0, zov h1] at h
  have h := zm zy_56 h 20 (q := (32, dset (dset (dset lf 1 (2, a)) 0 (4, 59 + 2 * i)) 3 (0, 0), [], cup (cup (cup (cup (cup (cup g ((59 + 2 * i).toNat) 0 a) ((59 + 2 * i).toNat) 1 0) ((59 + 2 * i).toNat) 2 0) ((59 + 2 * i).toNat) 3 0) ((59 + 2 * i).toNat) 4 ((-1))) ((59 + 2 * i).toNat) 5 0)) rfl
  dsimp only at h
  exact ⟨_, rfl, rfl, h⟩
theorem t_begin32 {sv : Nat → Int32} {L n : Nat} {lf : dlf} {g : cg} {o : cg × Option cv} {i b : Int} (hi0 : 0 ≤ i) (hi6 : i < 6) (h : zr sv L (n + 1) 56 32 lf [] g o) (h0 : lf 0 = (4, 59 + 2 * i)) (h3 : lf 3 = (0, b)) : (8 ≤ b ∧ (o = (g, none))) ∨ (b < 8 ∧ (∃ lf'2, lf'2 0 = (4, 59 + 2 * i) ∧ lf'2 3 = (0, w32 (b + 1)) ∧ zr sv L n 56 32 lf'2 [] (cup g ((60 + 2 * i).toNat) ((b).toNat) ((-1))) o)) := by
  rw [zov h0, zov h3] at h
  have h := zm1 zy_56 h 2 (q := (cond (crel .ge b 8) 51 38, dset (dset lf 3 (0, b)) 0 (4, 59 + 2 * i), [], g)) rfl
  dsimp only at h
  rcases zif_ge h with ⟨hc1, h⟩ | ⟨hc1, h⟩
  · refine Or.inl ⟨hc1, ?_⟩
    exact zret zy_56 h rfl rfl
  · refine Or.inr ⟨hc1, ?_⟩
    have h := zm zy_56 h 1 (q := (39, dset (dset lf 3 (0, b)) 0 (4, 59 + 2 * i), [(4, 59 + 2 * i)], g)) rfl
    dsimp only at h
    have h := zgf zy_56 h rfl rfl (dvf_59_6 hi0 hi6)
    have h := zm zy_56 h 5 (q := (32, dset (dset (dset lf 3 (0, b)) 0 (4, 59 + 2 * i)) 3 (0, w32 (b + 1)), [], cup g ((60 + 2 * i).toNat) ((b).toNat) ((-1)))) rfl
    dsimp only at h
    exact ⟨_, rfl, rfl, h⟩
theorem t_takePer {sv : Nat → Int32} {L n : Nat} {lf : dlf} {g : cg} {o : cg × Option cv} (h : zr sv L n 54 0 lf [] g o) (h0 : lf 0 = (4, 90)) : (g 45 3 < 6 ∧ (∃ g2, zr sv L n 37 0 (darg 0 [(4, 88)]) [] g (g2, none) ∧ (∃ g3 r4, zr sv L n 55 0 (darg 0 [(4, 90)]) [] g2 (g3, some (0, r4)) ∧ ((r4 ≠ 0 ∧ (0 ≤ g3 45 3 → g3 45 3 < 6 → (∃ g8, zr sv L n 56 0 (darg 0 [(4, 59 + 2 * (g3 45 3)), (2, g3 88 6)]) [] g3 (g8, none) ∧ (∃ g9, zr sv L n 37 0 (darg 0 [(4, 88)]) [] g8 (g9, none) ∧ (∃ g10 r11, zr sv L n 46 0 (darg 0 [(4, 88), (0, 3)]) [] g9 (g10, some (0, r11)) ∧ ((r11 ≠ 0 ∧ (∃ g13 r14, zr sv L n 41 0 (darg 0 [(4, 88), (0, 0), (0, 999)]) [] g10 (g13, some (0, r14)) ∧ ((r14 ≠ (-1) ∧ (∃ g16 r17, zr sv L n 57 0 (darg 0 [(4, 88), (0, 4)]) [] (cup g13 ((59 + 2 * (g3 45 3)).toNat) 1 r14) (g16, some (0, r17)) ∧ (∃ g18 r19, zr sv L n 57 0 (darg 0 [(4, 88), (0, 5)]) [] (cup g16 ((59 + 2 * (g3 45 3)).toNat) 2 r17) (g18, some (0, r19)) ∧ (∃ g20 r21, zr sv L n 42 0 (darg 0 [(4, 88)]) [] (cup g18 ((59 + 2 * (g3 45 3)).toNat) 3 r19) (g20, some (0, r21)) ∧ ((r21 ≠ 0 ∧ (o = (cup g20 45 3 (w32 ((g20 45 3) + 1)), some (0, 1)))) ∨ (r21 = 0 ∧ (o = (g20, some (0, 0))))))))) ∨ (r14 = (-1) ∧ (o = (cup g13 ((59 + 2 * (g3 45 3)).toNat) 1 r14, some (0, 0))))))) ∨ (r11 = 0 ∧ (o = (g10, some (0, 0)))))))))) ∨ (r4 = 0 ∧ (o = (g3, some (0, 0)))))))) ∨ (6 ≤ g 45 3 ∧ (∃ g23 r24, zr sv L n 39 0 (darg 0 [(4, 88), (0, 6)]) [] g (g23, some (0, r24)) ∧ (o = (g23, some (0, r24))))) := by
  rw [zov h0] at h
  have h := zm zy_54 h 5 (q := (cond (crel .lt (g 45 3) 6) 22 12, dset lf 0 (4, 90), [], g)) rfl
  dsimp only at h
  rcases zif_lt h with ⟨hc1, h⟩ | ⟨hc1, h⟩
  · refine Or.inl ⟨hc1, ?_⟩
    have h := zm zy_54 h 2 (q := (26, dset lf 0 (4, 90), [(4, 88)], g)) rfl
    dsimp only at h
    obtain ⟨g2, hk, h⟩ := zcallV zy_54 h rfl rfl zy_37 zk_37
    dsimp only at hk h
    refine ⟨g2, hk, ?_⟩
    have h := zm zy_54 h 1 (q := (30, dset lf 0 (4, 90), [(4, 90)], g2)) rfl
    dsimp only at h
    obtain ⟨g3, r4, hk, h⟩ := zcallI zy_54 h rfl rfl zy_55 zk_55
    dsimp only at hk h
    refine ⟨g3, r4, hk, ?_⟩
    have h := zm zy_54 h 1 (q := (cond (crel .ne r4 0) 38 36, dset lf 0 (4, 90), [], g3)) rfl
    dsimp only at h
    rcases zif_ne h with ⟨hc5, h⟩ | ⟨hc5, h⟩
    · refine Or.inl ⟨hc5, ?_⟩
      intro ha6 hb7
      have h := zm zy_54 h 6 (q := (52, dset lf 0 (4, 90), [(0, g3 45 3), (4, 48)], g3)) rfl
      dsimp only at h
      have h := zald zy_54 h rfl rfl (dvp_48 ha6 hb7)
      have h := zm zy_54 h 5 (q := (62, dset (dset lf 0 (4, 90)) 1 (4, 59 + 2 * (g3 45 3)), [(2, g3 88 6), (4, 59 + 2 * (g3 45 3))], g3)) rfl
      dsimp only at h
      obtain ⟨g8, hk, h⟩ := zcallV zy_54 h rfl rfl zy_56 zk_56
      dsimp only at hk h
      refine ⟨g8, hk, ?_⟩
      have h := zm zy_54 h 2 (q := (69, dset (dset lf 0 (4, 90)) 1 (4, 59 + 2 * (g3 45 3)), [(4, 88)], g8)) rfl
      dsimp only at h
      obtain ⟨g9, hk, h⟩ := zcallV zy_54 h rfl rfl zy_37 zk_37
      dsimp only at hk h
      refine ⟨g9, hk, ?_⟩
      have h := zm zy_54 h 3 (q := (77, dset (dset lf 0 (4, 90)) 1 (4, 59 + 2 * (g3 45 3)), [(0, 3), (4, 88)], g9)) rfl
      dsimp only at h
      obtain ⟨g10, r11, hk, h⟩ := zcallI zy_54 h rfl rfl zy_46 zk_46
      dsimp only at hk h
      refine ⟨g10, r11, hk, ?_⟩
      have h := zm zy_54 h 1 (q := (cond (crel .ne r11 0) 85 83, dset (dset lf 0 (4, 90)) 1 (4, 59 + 2 * (g3 45 3)), [], g10)) rfl
      dsimp only at h
      rcases zif_ne h with ⟨hc12, h⟩ | ⟨hc12, h⟩
      · refine Or.inl ⟨hc12, ?_⟩
        have h := zm zy_54 h 5 (q := (94, dset (dset lf 0 (4, 90)) 1 (4, 59 + 2 * (g3 45 3)), [(0, 999), (0, 0), (4, 88), (4, 59 + 2 * (g3 45 3))], g10)) rfl
        dsimp only at h
        obtain ⟨g13, r14, hk, h⟩ := zcallI zy_54 h rfl rfl zy_41 zk_41
        dsimp only at hk h
        refine ⟨g13, r14, hk, ?_⟩
        have h := zm zy_54 h 2 (q := (101, dset (dset lf 0 (4, 90)) 1 (4, 59 + 2 * (g3 45 3)), [(4, 59 + 2 * (g3 45 3))], cup g13 ((59 + 2 * (g3 45 3)).toNat) 1 r14)) rfl
        dsimp only at h
        have h := zgf zy_54 h rfl rfl (dvf_59_1 ha6 hb7)
        have h : zr sv L n 54 104 (dset (dset lf 0 (4, 90)) 1 (4, 59 + 2 * (g3 45 3))) [(0, r14)] (cup g13 ((59 + 2 * (g3 45 3)).toNat) 1 r14) o := by first | exact h | (rw [cup_at] at h; exact h)
        have h := zm zy_54 h 2 (q := (cond (crel .ne r14 ((-1))) 110 108, dset (dset lf 0 (4, 90)) 1 (4, 59 + 2 * (g3 45 3)), [], cup g13 ((59 + 2 * (g3 45 3)).toNat) 1 r14)) rfl
        dsimp only at h
        rcases zif_ne h with ⟨hc15, h⟩ | ⟨hc15, h⟩
        · refine Or.inl ⟨hc15, ?_⟩
          have h := zm zy_54 h 4 (q := (116, dset (dset lf 0 (4, 90)) 1 (4, 59 + 2 * (g3 45 3)), [(0, 4), (4, 88), (4, 59 + 2 * (g3 45 3))], cup g13 ((59 + 2 * (g3 45 3)).toNat) 1 r14)) rfl
          dsimp only at h
          obtain ⟨g16, r17, hk, h⟩ := zcallI zy_54 h rfl rfl zy_57 zk_57
          dsimp only at hk h
          refine ⟨g16, r17, hk, ?_⟩
          have h := zm zy_54 h 5 (q := (128, dset (dset lf 0 (4, 90)) 1 (4, 59 + 2 * (g3 45 3)), [(0, 5), (4, 88), (4, 59 + 2 * (g3 45 3))], cup g16 ((59 + 2 * (g3 45 3)).toNat) 2 r17)) rfl
          dsimp only at h
          obtain ⟨g18, r19, hk, h⟩ := zcallI zy_54 h rfl rfl zy_57 zk_57
          dsimp only at hk h
          refine ⟨g18, r19, hk, ?_⟩
          have h := zm zy_54 h 3 (q := (138, dset (dset lf 0 (4, 90)) 1 (4, 59 + 2 * (g3 45 3)), [(4, 88)], cup g18 ((59 + 2 * (g3 45 3)).toNat) 3 r19)) rfl
          dsimp only at h
          obtain ⟨g20, r21, hk, h⟩ := zcallI zy_54 h rfl rfl zy_42 zk_42
          dsimp only at hk h
          refine ⟨g20, r21, hk, ?_⟩
          have h := zm zy_54 h 1 (q := (cond (crel .ne r21 0) 146 144, dset (dset lf 0 (4, 90)) 1 (4, 59 + 2 * (g3 45 3)), [], g20)) rfl
          dsimp only at h
          rcases zif_ne h with ⟨hc22, h⟩ | ⟨hc22, h⟩
          · refine Or.inl ⟨hc22, ?_⟩
            have h := zm zy_54 h 8 (q := (160, dset (dset lf 0 (4, 90)) 1 (4, 59 + 2 * (g3 45 3)), [(0, 1)], cup g20 45 3 (w32 ((g20 45 3) + 1)))) rfl
            dsimp only at h
            exact zret zy_54 h rfl rfl
          · refine Or.inr ⟨hc22, ?_⟩
            have h := zm zy_54 h 1 (q := (145, dset (dset lf 0 (4, 90)) 1 (4, 59 + 2 * (g3 45 3)), [(0, 0)], g20)) rfl
            dsimp only at h
            exact zret zy_54 h rfl rfl
        · refine Or.inr ⟨hc15, ?_⟩
          have h := zm zy_54 h 1 (q := (109, dset (dset lf 0 (4, 90)) 1 (4, 59 + 2 * (g3 45 3)), [(0, 0)], cup g13 ((59 + 2 * (g3 45 3)).toNat) 1 r14)) rfl
          dsimp only at h
          exact zret zy_54 h rfl rfl
      · refine Or.inr ⟨hc12, ?_⟩
        have h := zm zy_54 h 1 (q := (84, dset (dset lf 0 (4, 90)) 1 (4, 59 + 2 * (g3 45 3)), [(0, 0)], g10)) rfl
        dsimp only at h
        exact zret zy_54 h rfl rfl
    · refine Or.inr ⟨hc5, ?_⟩
      have h := zm zy_54 h 1 (q := (37, dset lf 0 (4, 90), [(0, 0)], g3)) rfl
      dsimp only at h
      exact zret zy_54 h rfl rfl
  · refine Or.inr ⟨hc1, ?_⟩
    have h := zm zy_54 h 3 (q := (18, dset lf 0 (4, 90), [(0, 6), (4, 88)], g)) rfl
    dsimp only at h
    obtain ⟨g23, r24, hk, h⟩ := zcallI zy_54 h rfl rfl zy_39 zk_39
    dsimp only at hk h
    refine ⟨g23, r24, hk, ?_⟩
    exact zret zy_54 h rfl rfl
theorem t_untwin {sv : Nat → Int32} {L n : Nat} {lf : dlf} {g : cg} {o : cg × Option cv} (h : zr sv L n 53 0 lf [] g o) (h0 : lf 0 = (4, 90)) : ∃ g1 r2, zr sv L n 44 0 (darg 0 [(4, 88), (4, 45)]) [] g (g1, some (0, r2)) ∧ ((r2 = (-1) ∧ (o = (g1, some (0, r2)))) ∨ (r2 ≠ (-1) ∧ (0 ≤ r2 → r2 < 6 → ((g1 ((59 + 2 * r2).toNat) 4 = (-1) ∧ (o = (g1, some (0, r2)))) ∨ (g1 ((59 + 2 * r2).toNat) 4 ≠ (-1) ∧ (∃ g7 r8, zr sv L n 50 0 (darg 0 [(4, 88), (0, g 88 5), (0, 5)]) [] g1 (g7, some (0, r8)) ∧ (o = (g7, some (0, (-1)))))))))) := by
  rw [zov h0] at h
  have h := zm zy_53 h 8 (q := (16, dset (dset lf 0 (4, 90)) 1 (0, g 88 5), [(4, 45), (4, 88)], g)) rfl
  dsimp only at h
  obtain ⟨g1, r2, hk, h⟩ := zcallI zy_53 h rfl rfl zy_44 zk_44
  dsimp only at hk h
  refine ⟨g1, r2, hk, ?_⟩
  have h := zm zy_53 h 4 (q := (cond (crel .eq r2 ((-1))) 53 25, dset (dset (dset lf 0 (4, 90)) 1 (0, g 88 5)) 2 (0, r2), [], g1)) rfl
  dsimp only at h
  rcases zif_eq h with ⟨hc3, h⟩ | ⟨hc3, h⟩
  · refine Or.inl ⟨hc3, ?_⟩
    have h := zm zy_53 h 1 (q := (54, dset (dset (dset lf 0 (4, 90)) 1 (0, g 88 5)) 2 (0, r2), [(0, r2)], g1)) rfl
    dsimp only at h
    exact zret zy_53 h rfl rfl
  · refine Or.inr ⟨hc3, ?_⟩
    intro ha4 hb5
    have h := zm zy_53 h 4 (q := (33, dset (dset (dset lf 0 (4, 90)) 1 (0, g 88 5)) 2 (0, r2), [(0, r2), (4, 48)], g1)) rfl
    dsimp only at h
    have h := zald zy_53 h rfl rfl (dvp_48 ha4 hb5)
    have h := zgf zy_53 h rfl rfl (dvf_59_4 ha4 hb5)
    have h : zr sv L n 53 37 (dset (dset (dset lf 0 (4, 90)) 1 (0, g 88 5)) 2 (0, r2)) [(0, g1 ((59 + 2 * r2).toNat) 4)] (g1) o := by first | exact h | (rw [cup_at] at h; exact h)
    have h := zm zy_53 h 2 (q := (cond (crel .eq (g1 ((59 + 2 * r2).toNat) 4) ((-1))) 53 41, dset (dset (dset lf 0 (4, 90)) 1 (0, g 88 5)) 2 (0, r2), [], g1)) rfl
    dsimp only at h
    rcases zif_eq h with ⟨hc6, h⟩ | ⟨hc6, h⟩
    · refine Or.inl ⟨hc6, ?_⟩
      have h := zm zy_53 h 1 (q := (54, dset (dset (dset lf 0 (4, 90)) 1 (0, g 88 5)) 2 (0, r2), [(0, r2)], g1)) rfl
      dsimp only at h
      exact zret zy_53 h rfl rfl
    · refine Or.inr ⟨hc6, ?_⟩
      have h := zm zy_53 h 4 (q := (47, dset (dset (dset lf 0 (4, 90)) 1 (0, g 88 5)) 2 (0, r2), [(0, 5), (0, g 88 5), (4, 88)], g1)) rfl
      dsimp only at h
      obtain ⟨g7, r8, hk, h⟩ := zcallI zy_53 h rfl rfl zy_50 zk_50
      dsimp only at hk h
      refine ⟨g7, r8, hk, ?_⟩
      have h := zm zy_53 h 2 (q := (52, dset (dset (dset lf 0 (4, 90)) 1 (0, g 88 5)) 2 (0, r2), [(0, (-1))], g7)) rfl
      dsimp only at h
      exact zret zy_53 h rfl rfl
theorem t_takeTw {sv : Nat → Int32} {L n : Nat} {lf : dlf} {g : cg} {o : cg × Option cv} (h : zr sv L n 52 0 lf [] g o) (h0 : lf 0 = (4, 90)) : ∃ g1, zr sv L n 37 0 (darg 0 [(4, 88)]) [] g (g1, none) ∧ (∃ g2 r3, zr sv L n 53 0 (darg 0 [(4, 90)]) [] g1 (g2, some (0, r3)) ∧ ((r3 ≠ (-1) ∧ (∃ g5 r6, zr sv L n 53 0 (darg 0 [(4, 90)]) [] g2 (g5, some (0, r6)) ∧ ((r6 ≠ (-1) ∧ ((r3 ≠ r6 ∧ (0 ≤ r3 → r3 < 6 → (0 ≤ r6 → r6 < 6 → (∃ g13 r14, zr sv L n 42 0 (darg 0 [(4, 88)]) [] (cup (cup g5 ((59 + 2 * r3).toNat) 4 r6) ((59 + 2 * r6).toNat) 4 r3) (g13, some (0, r14)) ∧ (o = (g13, some (0, r14))))))) ∨ (r3 = r6 ∧ (∃ g15 r16, zr sv L n 50 0 (darg 0 [(4, 88), (0, g2 88 5), (0, 5)]) [] g5 (g15, some (0, r16)) ∧ (o = (g15, some (0, r16))))))) ∨ (r6 = (-1) ∧ (o = (g5, some (0, 0))))))) ∨ (r3 = (-1) ∧ (o = (g2, some (0, 0)))))) := by
  rw [zov h0] at h
  have h := zm zy_52 h 2 (q := (4, dset lf 0 (4, 90), [(4, 88)], g)) rfl
  dsimp only at h
  obtain ⟨g1, hk, h⟩ := zcallV zy_52 h rfl rfl zy_37 zk_37
  dsimp only at hk h
  refine ⟨g1, hk, ?_⟩
  have h := zm zy_52 h 1 (q := (8, dset lf 0 (4, 90), [(4, 90)], g1)) rfl
  dsimp only at h
  obtain ⟨g2, r3, hk, h⟩ := zcallI zy_52 h rfl rfl zy_53 zk_53
  dsimp only at hk h
  refine ⟨g2, r3, hk, ?_⟩
  have h := zm zy_52 h 4 (q := (cond (crel .ne r3 ((-1))) 19 17, dset (dset lf 0 (4, 90)) 1 (0, r3), [], g2)) rfl
  dsimp only at h
  rcases zif_ne h with ⟨hc4, h⟩ | ⟨hc4, h⟩
  · refine Or.inl ⟨hc4, ?_⟩
    have h := zm zy_52 h 5 (q := (28, dset (dset (dset lf 0 (4, 90)) 1 (0, r3)) 2 (0, g2 88 5), [(4, 90)], g2)) rfl
    dsimp only at h
    obtain ⟨g5, r6, hk, h⟩ := zcallI zy_52 h rfl rfl zy_53 zk_53
    dsimp only at hk h
    refine ⟨g5, r6, hk, ?_⟩
    have h := zm zy_52 h 4 (q := (cond (crel .ne r6 ((-1))) 39 37, dset (dset (dset (dset lf 0 (4, 90)) 1 (0, r3)) 2 (0, g2 88 5)) 3 (0, r6), [], g5)) rfl
    dsimp only at h
    rcases zif_ne h with ⟨hc7, h⟩ | ⟨hc7, h⟩
    · refine Or.inl ⟨hc7, ?_⟩
      have h := zm zy_52 h 3 (q := (cond (crel .ne r3 r6) 54 44, dset (dset (dset (dset lf 0 (4, 90)) 1 (0, r3)) 2 (0, g2 88 5)) 3 (0, r6), [], g5)) rfl
      dsimp only at h
      rcases zif_ne h with ⟨hc8, h⟩ | ⟨hc8, h⟩
      · refine Or.inl ⟨hc8, ?_⟩
        intro ha9 hb10
        have h := zm zy_52 h 4 (q := (62, dset (dset (dset (dset lf 0 (4, 90)) 1 (0, r3)) 2 (0, g2 88 5)) 3 (0, r6), [(0, r3), (4, 48)], g5)) rfl
        dsimp only at h
        have h := zald zy_52 h rfl rfl (dvp_48 ha9 hb10)
        intro ha11 hb12
        have h := zm zy_52 h 6 (q := (75, dset (dset (dset (dset lf 0 (4, 90)) 1 (0, r3)) 2 (0, g2 88 5)) 3 (0, r6), [(0, r6), (4, 48)], cup g5 ((59 + 2 * r3).toNat) 4 r6)) rfl
        dsimp only at h
        have h := zald zy_52 h rfl rfl (dvp_48 ha11 hb12)
        have h := zm zy_52 h 4 (q := (84, dset (dset (dset (dset lf 0 (4, 90)) 1 (0, r3)) 2 (0, g2 88 5)) 3 (0, r6), [(4, 88)], cup (cup g5 ((59 + 2 * r3).toNat) 4 r6) ((59 + 2 * r6).toNat) 4 r3)) rfl
        dsimp only at h
        obtain ⟨g13, r14, hk, h⟩ := zcallI zy_52 h rfl rfl zy_42 zk_42
        dsimp only at hk h
        refine ⟨g13, r14, hk, ?_⟩
        exact zret zy_52 h rfl rfl
      · refine Or.inr ⟨hc8, ?_⟩
        have h := zm zy_52 h 4 (q := (50, dset (dset (dset (dset lf 0 (4, 90)) 1 (0, r3)) 2 (0, g2 88 5)) 3 (0, r6), [(0, 5), (0, g2 88 5), (4, 88)], g5)) rfl
        dsimp only at h
        obtain ⟨g15, r16, hk, h⟩ := zcallI zy_52 h rfl rfl zy_50 zk_50
        dsimp only at hk h
        refine ⟨g15, r16, hk, ?_⟩
        exact zret zy_52 h rfl rfl
    · refine Or.inr ⟨hc7, ?_⟩
      have h := zm zy_52 h 1 (q := (38, dset (dset (dset (dset lf 0 (4, 90)) 1 (0, r3)) 2 (0, g2 88 5)) 3 (0, r6), [(0, 0)], g5)) rfl
      dsimp only at h
      exact zret zy_52 h rfl rfl
  · refine Or.inr ⟨hc4, ?_⟩
    have h := zm zy_52 h 1 (q := (18, dset (dset lf 0 (4, 90)) 1 (0, r3), [(0, 0)], g2)) rfl
    dsimp only at h
    exact zret zy_52 h rfl rfl
theorem t_befr {sv : Nat → Int32} {L n : Nat} {lf : dlf} {g : cg} {o : cg × Option cv} {a b : Int} (h : zr sv L n 51 0 lf [] g o) (h0 : lf 0 = (4, 45)) (h1 : lf 1 = (0, a)) (h2 : lf 2 = (0, b)) : 0 ≤ a → a < 6 → (0 ≤ b → b < 6 → (o = (cup (cup g ((59 + 2 * a).toNat) 5 ((i32 (g ((59 + 2 * a).toNat) 5) ||| i32 ((i32 1 <<< (i32 b &&& 31)).toInt)).toInt)) ((59 + 2 * b).toNat) 5 ((i32 ((cup g ((59 + 2 * a).toNat) 5 ((i32 (g ((59 + 2 * a).toNat) 5) ||| i32 ((i32 1 <<< (i32 b &&& 31)).toInt)).toInt)) ((59 + 2 * b).toNat) 5) ||| i32 ((i32 1 <<< (i32 a &&& 31)).toInt)).toInt), none))) := by
  rw [zov h0, zov h1, zov h2] at h
  intro ha1 hb2
  have h := zm zy_51 h 3 (q := (5, dset (dset (dset lf 2 (0, b)) 1 (0, a)) 0 (4, 45), [(0, a), (4, 48)], g)) rfl
  dsimp only at h
  have h := zald zy_51 h rfl rfl (dvp_48 ha1 hb2)
  have h := zm zy_51 h 1 (q := (7, dset (dset (dset lf 2 (0, b)) 1 (0, a)) 0 (4, 45), [(4, 59 + 2 * a), (4, 59 + 2 * a)], g)) rfl
  dsimp only at h
  have h := zgf zy_51 h rfl rfl (dvf_59_5 ha1 hb2)
  have h : zr sv L n 51 10 (dset (dset (dset lf 2 (0, b)) 1 (0, a)) 0 (4, 45)) [(0, g ((59 + 2 * a).toNat) 5), (4, 59 + 2 * a)] (g) o := by first | exact h | (rw [cup_at] at h; exact h)
  intro ha3 hb4
  have h := zm zy_51 h 8 (q := (22, dset (dset (dset lf 2 (0, b)) 1 (0, a)) 0 (4, 45), [(0, b), (4, 48)], cup g ((59 + 2 * a).toNat) 5 ((i32 (g ((59 + 2 * a).toNat) 5) ||| i32 ((i32 1 <<< (i32 b &&& 31)).toInt)).toInt))) rfl
  dsimp only at h
  have h := zald zy_51 h rfl rfl (dvp_48 ha3 hb4)
  have h := zm zy_51 h 1 (q := (24, dset (dset (dset lf 2 (0, b)) 1 (0, a)) 0 (4, 45), [(4, 59 + 2 * b), (4, 59 + 2 * b)], cup g ((59 + 2 * a).toNat) 5 ((i32 (g ((59 + 2 * a).toNat) 5) ||| i32 ((i32 1 <<< (i32 b &&& 31)).toInt)).toInt))) rfl
  dsimp only at h
  have h := zgf zy_51 h rfl rfl (dvf_59_5 ha3 hb4)
  have h : zr sv L n 51 27 (dset (dset (dset lf 2 (0, b)) 1 (0, a)) 0 (4, 45)) [(0, (cup g ((59 + 2 * a).toNat) 5 ((i32 (g ((59 + 2 * a).toNat) 5) ||| i32 ((i32 1 <<< (i32 b &&& 31)).toInt)).toInt)) ((59 + 2 * b).toNat) 5), (4, 59 + 2 * b)] (cup g ((59 + 2 * a).toNat) 5 ((i32 (g ((59 + 2 * a).toNat) 5) ||| i32 ((i32 1 <<< (i32 b &&& 31)).toInt)).toInt)) o := by first | exact h | (rw [cup_at] at h; exact h)
  have h := zm zy_51 h 5 (q := (34, dset (dset (dset lf 2 (0, b)) 1 (0, a)) 0 (4, 45), [], cup (cup g ((59 + 2 * a).toNat) 5 ((i32 (g ((59 + 2 * a).toNat) 5) ||| i32 ((i32 1 <<< (i32 b &&& 31)).toInt)).toInt)) ((59 + 2 * b).toNat) 5 ((i32 ((cup g ((59 + 2 * a).toNat) 5 ((i32 (g ((59 + 2 * a).toNat) 5) ||| i32 ((i32 1 <<< (i32 b &&& 31)).toInt)).toInt)) ((59 + 2 * b).toNat) 5) ||| i32 ((i32 1 <<< (i32 a &&& 31)).toInt)).toInt))) rfl
  dsimp only at h
  exact zret zy_51 h rfl rfl
theorem t_takeKn {sv : Nat → Int32} {L n : Nat} {lf : dlf} {g : cg} {o : cg × Option cv} (h : zr sv L n 49 0 lf [] g o) (h0 : lf 0 = (4, 90)) : ∃ g1, zr sv L n 37 0 (darg 0 [(4, 88)]) [] g (g1, none) ∧ (∃ g2 r3, zr sv L n 44 0 (darg 0 [(4, 88), (4, 45)]) [] g1 (g2, some (0, r3)) ∧ ((r3 ≠ (-1) ∧ (∃ g5 r6, zr sv L n 44 0 (darg 0 [(4, 88), (4, 45)]) [] g2 (g5, some (0, r6)) ∧ ((r6 ≠ (-1) ∧ ((r3 ≠ r6 ∧ (∃ g9, zr sv L n 51 0 (darg 0 [(4, 45), (0, r3), (0, r6)]) [] g5 (g9, none) ∧ (∃ g10 r11, zr sv L n 42 0 (darg 0 [(4, 88)]) [] g9 (g10, some (0, r11)) ∧ (o = (g10, some (0, r11)))))) ∨ (r3 = r6 ∧ (∃ g12 r13, zr sv L n 50 0 (darg 0 [(4, 88), (0, g2 88 5), (0, 5)]) [] g5 (g12, some (0, r13)) ∧ (o = (g12, some (0, r13))))))) ∨ (r6 = (-1) ∧ (o = (g5, some (0, 0))))))) ∨ (r3 = (-1) ∧ (o = (g2, some (0, 0)))))) := by
  rw [zov h0] at h
  have h := zm zy_49 h 2 (q := (4, dset lf 0 (4, 90), [(4, 88)], g)) rfl
  dsimp only at h
  obtain ⟨g1, hk, h⟩ := zcallV zy_49 h rfl rfl zy_37 zk_37
  dsimp only at hk h
  refine ⟨g1, hk, ?_⟩
  have h := zm zy_49 h 4 (q := (15, dset lf 0 (4, 90), [(4, 45), (4, 88)], g1)) rfl
  dsimp only at h
  obtain ⟨g2, r3, hk, h⟩ := zcallI zy_49 h rfl rfl zy_44 zk_44
  dsimp only at hk h
  refine ⟨g2, r3, hk, ?_⟩
  have h := zm zy_49 h 4 (q := (cond (crel .ne r3 ((-1))) 26 24, dset (dset lf 0 (4, 90)) 1 (0, r3), [], g2)) rfl
  dsimp only at h
  rcases zif_ne h with ⟨hc4, h⟩ | ⟨hc4, h⟩
  · refine Or.inl ⟨hc4, ?_⟩
    have h := zm zy_49 h 8 (q := (42, dset (dset (dset lf 0 (4, 90)) 1 (0, r3)) 2 (0, g2 88 5), [(4, 45), (4, 88)], g2)) rfl
    dsimp only at h
    obtain ⟨g5, r6, hk, h⟩ := zcallI zy_49 h rfl rfl zy_44 zk_44
    dsimp only at hk h
    refine ⟨g5, r6, hk, ?_⟩
    have h := zm zy_49 h 4 (q := (cond (crel .ne r6 ((-1))) 53 51, dset (dset (dset (dset lf 0 (4, 90)) 1 (0, r3)) 2 (0, g2 88 5)) 3 (0, r6), [], g5)) rfl
    dsimp only at h
    rcases zif_ne h with ⟨hc7, h⟩ | ⟨hc7, h⟩
    · refine Or.inl ⟨hc7, ?_⟩
      have h := zm zy_49 h 3 (q := (cond (crel .ne r3 r6) 68 58, dset (dset (dset (dset lf 0 (4, 90)) 1 (0, r3)) 2 (0, g2 88 5)) 3 (0, r6), [], g5)) rfl
      dsimp only at h
      rcases zif_ne h with ⟨hc8, h⟩ | ⟨hc8, h⟩
      · refine Or.inl ⟨hc8, ?_⟩
        have h := zm zy_49 h 4 (q := (74, dset (dset (dset (dset lf 0 (4, 90)) 1 (0, r3)) 2 (0, g2 88 5)) 3 (0, r6), [(0, r6), (0, r3), (4, 45)], g5)) rfl
        dsimp only at h
        obtain ⟨g9, hk, h⟩ := zcallV zy_49 h rfl rfl zy_51 zk_51
        dsimp only at hk h
        refine ⟨g9, hk, ?_⟩
        have h := zm zy_49 h 2 (q := (81, dset (dset (dset (dset lf 0 (4, 90)) 1 (0, r3)) 2 (0, g2 88 5)) 3 (0, r6), [(4, 88)], g9)) rfl
        dsimp only at h
        obtain ⟨g10, r11, hk, h⟩ := zcallI zy_49 h rfl rfl zy_42 zk_42
        dsimp only at hk h
        refine ⟨g10, r11, hk, ?_⟩
        exact zret zy_49 h rfl rfl
      · refine Or.inr ⟨hc8, ?_⟩
        have h := zm zy_49 h 4 (q := (64, dset (dset (dset (dset lf 0 (4, 90)) 1 (0, r3)) 2 (0, g2 88 5)) 3 (0, r6), [(0, 5), (0, g2 88 5), (4, 88)], g5)) rfl
        dsimp only at h
        obtain ⟨g12, r13, hk, h⟩ := zcallI zy_49 h rfl rfl zy_50 zk_50
        dsimp only at hk h
        refine ⟨g12, r13, hk, ?_⟩
        exact zret zy_49 h rfl rfl
    · refine Or.inr ⟨hc7, ?_⟩
      have h := zm zy_49 h 1 (q := (52, dset (dset (dset (dset lf 0 (4, 90)) 1 (0, r3)) 2 (0, g2 88 5)) 3 (0, r6), [(0, 0)], g5)) rfl
      dsimp only at h
      exact zret zy_49 h rfl rfl
  · refine Or.inr ⟨hc4, ?_⟩
    have h := zm zy_49 h 1 (q := (25, dset (dset lf 0 (4, 90)) 1 (0, r3), [(0, 0)], g2)) rfl
    dsimp only at h
    exact zret zy_49 h rfl rfl
theorem t_takeWas {sv : Nat → Int32} {L n : Nat} {lf : dlf} {g : cg} {o : cg × Option cv} (h : zr sv L n 43 0 lf [] g o) (h0 : lf 0 = (4, 90)) : ∃ g1, zr sv L n 37 0 (darg 0 [(4, 88)]) [] g (g1, none) ∧ (∃ g2 r3, zr sv L n 44 0 (darg 0 [(4, 88), (4, 45)]) [] g1 (g2, some (0, r3)) ∧ ((r3 = (-1) ∧ (o = (g2, some (0, 0)))) ∨ (r3 ≠ (-1) ∧ (∃ g5 r6, zr sv L n 46 0 (darg 0 [(4, 88), (0, 9)]) [] g2 (g5, some (0, r6)) ∧ ((r6 ≠ 0 ∧ (∃ g8 r9, zr sv L n 47 0 (darg 0 [(4, 88), (4, 45)]) [] g5 (g8, some (0, r9)) ∧ ((r9 = (-1) ∧ (o = (g8, some (0, 0)))) ∨ (r9 ≠ (-1) ∧ (∃ g11 r12, zr sv L n 46 0 (darg 0 [(4, 88), (0, 10)]) [] g8 (g11, some (0, r12)) ∧ ((r12 ≠ 0 ∧ (∃ g14 r15, zr sv L n 41 0 (darg 0 [(4, 88), (0, 0), (0, 7)]) [] g11 (g14, some (0, r15)) ∧ ((r15 ≠ (-1) ∧ (0 ≤ r3 → r3 < 6 → (∃ g19 r20, zr sv L n 42 0 (darg 0 [(4, 88)]) [] (cup g14 ((60 + 2 * r3).toNat) ((r15).toNat) r9) (g19, some (0, r20)) ∧ (o = (g19, some (0, r20)))))) ∨ (r15 = (-1) ∧ (o = (g14, some (0, 0))))))) ∨ (r12 = 0 ∧ (o = (g11, some (0, 0)))))))))) ∨ (r6 = 0 ∧ (o = (g5, some (0, 0))))))))) := by
  rw [zov h0] at h
  have h := zm zy_43 h 2 (q := (4, dset lf 0 (4, 90), [(4, 88)], g)) rfl
  dsimp only at h
  obtain ⟨g1, hk, h⟩ := zcallV zy_43 h rfl rfl zy_37 zk_37
  dsimp only at hk h
  refine ⟨g1, hk, ?_⟩
  have h := zm zy_43 h 4 (q := (15, dset lf 0 (4, 90), [(4, 45), (4, 88)], g1)) rfl
  dsimp only at h
  obtain ⟨g2, r3, hk, h⟩ := zcallI zy_43 h rfl rfl zy_44 zk_44
  dsimp only at hk h
  refine ⟨g2, r3, hk, ?_⟩
  have h := zm zy_43 h 4 (q := (cond (crel .eq r3 ((-1))) 36 24, dset (dset lf 0 (4, 90)) 1 (0, r3), [], g2)) rfl
  dsimp only at h
  rcases zif_eq h with ⟨hc4, h⟩ | ⟨hc4, h⟩
  · refine Or.inl ⟨hc4, ?_⟩
    have h := zm zy_43 h 1 (q := (37, dset (dset lf 0 (4, 90)) 1 (0, r3), [(0, 0)], g2)) rfl
    dsimp only at h
    exact zret zy_43 h rfl rfl
  · refine Or.inr ⟨hc4, ?_⟩
    have h := zm zy_43 h 3 (q := (30, dset (dset lf 0 (4, 90)) 1 (0, r3), [(0, 9), (4, 88)], g2)) rfl
    dsimp only at h
    obtain ⟨g5, r6, hk, h⟩ := zcallI zy_43 h rfl rfl zy_46 zk_46
    dsimp only at hk h
    refine ⟨g5, r6, hk, ?_⟩
    have h := zm zy_43 h 1 (q := (cond (crel .ne r6 0) 38 36, dset (dset lf 0 (4, 90)) 1 (0, r3), [], g5)) rfl
    dsimp only at h
    rcases zif_ne h with ⟨hc7, h⟩ | ⟨hc7, h⟩
    · refine Or.inl ⟨hc7, ?_⟩
      have h := zm zy_43 h 4 (q := (46, dset (dset lf 0 (4, 90)) 1 (0, r3), [(4, 45), (4, 88)], g5)) rfl
      dsimp only at h
      obtain ⟨g8, r9, hk, h⟩ := zcallI zy_43 h rfl rfl zy_47 zk_47
      dsimp only at hk h
      refine ⟨g8, r9, hk, ?_⟩
      have h := zm zy_43 h 4 (q := (cond (crel .eq r9 ((-1))) 67 55, dset (dset (dset lf 0 (4, 90)) 1 (0, r3)) 2 (0, r9), [], g8)) rfl
      dsimp only at h
      rcases zif_eq h with ⟨hc10, h⟩ | ⟨hc10, h⟩
      · refine Or.inl ⟨hc10, ?_⟩
        have h := zm zy_43 h 1 (q := (68, dset (dset (dset lf 0 (4, 90)) 1 (0, r3)) 2 (0, r9), [(0, 0)], g8)) rfl
        dsimp only at h
        exact zret zy_43 h rfl rfl
      · refine Or.inr ⟨hc10, ?_⟩
        have h := zm zy_43 h 3 (q := (61, dset (dset (dset lf 0 (4, 90)) 1 (0, r3)) 2 (0, r9), [(0, 10), (4, 88)], g8)) rfl
        dsimp only at h
        obtain ⟨g11, r12, hk, h⟩ := zcallI zy_43 h rfl rfl zy_46 zk_46
        dsimp only at hk h
        refine ⟨g11, r12, hk, ?_⟩
        have h := zm zy_43 h 1 (q := (cond (crel .ne r12 0) 69 67, dset (dset (dset lf 0 (4, 90)) 1 (0, r3)) 2 (0, r9), [], g11)) rfl
        dsimp only at h
        rcases zif_ne h with ⟨hc13, h⟩ | ⟨hc13, h⟩
        · refine Or.inl ⟨hc13, ?_⟩
          have h := zm zy_43 h 4 (q := (76, dset (dset (dset lf 0 (4, 90)) 1 (0, r3)) 2 (0, r9), [(0, 7), (0, 0), (4, 88)], g11)) rfl
          dsimp only at h
          obtain ⟨g14, r15, hk, h⟩ := zcallI zy_43 h rfl rfl zy_41 zk_41
          dsimp only at hk h
          refine ⟨g14, r15, hk, ?_⟩
          have h := zm zy_43 h 4 (q := (cond (crel .ne r15 ((-1))) 87 85, dset (dset (dset (dset lf 0 (4, 90)) 1 (0, r3)) 2 (0, r9)) 3 (0, r15), [], g14)) rfl
          dsimp only at h
          rcases zif_ne h with ⟨hc16, h⟩ | ⟨hc16, h⟩
          · refine Or.inl ⟨hc16, ?_⟩
            intro ha17 hb18
            have h := zm zy_43 h 4 (q := (95, dset (dset (dset (dset lf 0 (4, 90)) 1 (0, r3)) 2 (0, r9)) 3 (0, r15), [(0, r3), (4, 48)], g14)) rfl
            dsimp only at h
            have h := zald zy_43 h rfl rfl (dvp_48 ha17 hb18)
            have h := zgf zy_43 h rfl rfl (dvf_59_6 ha17 hb18)
            have h := zm zy_43 h 5 (q := (106, dset (dset (dset (dset lf 0 (4, 90)) 1 (0, r3)) 2 (0, r9)) 3 (0, r15), [(4, 88)], cup g14 ((60 + 2 * r3).toNat) ((r15).toNat) r9)) rfl
            dsimp only at h
            obtain ⟨g19, r20, hk, h⟩ := zcallI zy_43 h rfl rfl zy_42 zk_42
            dsimp only at hk h
            refine ⟨g19, r20, hk, ?_⟩
            exact zret zy_43 h rfl rfl
          · refine Or.inr ⟨hc16, ?_⟩
            have h := zm zy_43 h 1 (q := (86, dset (dset (dset (dset lf 0 (4, 90)) 1 (0, r3)) 2 (0, r9)) 3 (0, r15), [(0, 0)], g14)) rfl
            dsimp only at h
            exact zret zy_43 h rfl rfl
        · refine Or.inr ⟨hc13, ?_⟩
          have h := zm zy_43 h 1 (q := (68, dset (dset (dset lf 0 (4, 90)) 1 (0, r3)) 2 (0, r9), [(0, 0)], g11)) rfl
          dsimp only at h
          exact zret zy_43 h rfl rfl
    · refine Or.inr ⟨hc7, ?_⟩
      have h := zm zy_43 h 1 (q := (37, dset (dset lf 0 (4, 90)) 1 (0, r3), [(0, 0)], g5)) rfl
      dsimp only at h
      exact zret zy_43 h rfl rfl
theorem t_takeRate {sv : Nat → Int32} {L n : Nat} {lf : dlf} {g : cg} {o : cg × Option cv} {a b : Int} (h : zr sv L n 40 0 lf [] g o) (h0 : lf 0 = (4, 90)) (h1 : lf 1 = (0, a)) (h2 : lf 2 = (0, b)) : ((i32 ((i32 (g 90 4) >>> (i32 a &&& 31)).toInt) &&& i32 1).toInt = 0 ∧ (∃ g2, zr sv L n 37 0 (darg 0 [(4, 88)]) [] (cup g 90 4 ((i32 (g 90 4) ||| i32 ((i32 1 <<< (i32 a &&& 31)).toInt)).toInt)) (g2, none) ∧ (∃ g3 r4, zr sv L n 41 0 (darg 0 [(4, 88), (0, 0), (0, b)]) [] g2 (g3, some (0, r4)) ∧ ((r4 ≠ (-1) ∧ ((a ≠ 11 ∧ ((a ≠ 12 ∧ (∃ g8 r9, zr sv L n 42 0 (darg 0 [(4, 88)]) [] (cup g3 45 7 r4) (g8, some (0, r9)) ∧ (o = (g8, some (0, r9))))) ∨ (a = 12 ∧ (∃ g10 r11, zr sv L n 42 0 (darg 0 [(4, 88)]) [] (cup g3 45 6 r4) (g10, some (0, r11)) ∧ (o = (g10, some (0, r11))))))) ∨ (a = 11 ∧ (∃ g12 r13, zr sv L n 42 0 (darg 0 [(4, 88)]) [] (cup g3 45 5 r4) (g12, some (0, r13)) ∧ (o = (g12, some (0, r13))))))) ∨ (r4 = (-1) ∧ (o = (g3, some (0, 0)))))))) ∨ ((i32 ((i32 (g 90 4) >>> (i32 a &&& 31)).toInt) &&& i32 1).toInt ≠ 0 ∧ (∃ g14 r15, zr sv L n 39 0 (darg 0 [(4, 88), (0, 5)]) [] g (g14, some (0, r15)) ∧ (o = (g14, some (0, r15))))) := by
  rw [zov h0, zov h1, zov h2] at h
  have h := zm zy_40 h 7 (q := (cond (crel .eq ((i32 ((i32 (g 90 4) >>> (i32 a &&& 31)).toInt) &&& i32 1).toInt) 0) 20 11, dset (dset (dset lf 2 (0, b)) 1 (0, a)) 0 (4, 90), [], g)) rfl
  dsimp only at h
  rcases zif_eq h with ⟨hc1, h⟩ | ⟨hc1, h⟩
  · refine Or.inl ⟨hc1, ?_⟩
    have h := zm zy_40 h 10 (q := (36, dset (dset (dset lf 2 (0, b)) 1 (0, a)) 0 (4, 90), [(4, 88)], cup g 90 4 ((i32 (g 90 4) ||| i32 ((i32 1 <<< (i32 a &&& 31)).toInt)).toInt))) rfl
    dsimp only at h
    obtain ⟨g2, hk, h⟩ := zcallV zy_40 h rfl rfl zy_37 zk_37
    dsimp only at hk h
    refine ⟨g2, hk, ?_⟩
    have h := zm zy_40 h 4 (q := (45, dset (dset (dset lf 2 (0, b)) 1 (0, a)) 0 (4, 90), [(0, b), (0, 0), (4, 88)], g2)) rfl
    dsimp only at h
    obtain ⟨g3, r4, hk, h⟩ := zcallI zy_40 h rfl rfl zy_41 zk_41
    dsimp only at hk h
    refine ⟨g3, r4, hk, ?_⟩
    have h := zm zy_40 h 4 (q := (cond (crel .ne r4 ((-1))) 56 54, dset (dset (dset (dset lf 2 (0, b)) 1 (0, a)) 0 (4, 90)) 3 (0, r4), [], g3)) rfl
    dsimp only at h
    rcases zif_ne h with ⟨hc5, h⟩ | ⟨hc5, h⟩
    · refine Or.inl ⟨hc5, ?_⟩
      have h := zm zy_40 h 3 (q := (cond (crel .ne a 11) 73 62, dset (dset (dset (dset lf 2 (0, b)) 1 (0, a)) 0 (4, 90)) 3 (0, r4), [], g3)) rfl
      dsimp only at h
      rcases zif_ne h with ⟨hc6, h⟩ | ⟨hc6, h⟩
      · refine Or.inl ⟨hc6, ?_⟩
        have h := zm zy_40 h 3 (q := (cond (crel .ne a 12) 90 79, dset (dset (dset (dset lf 2 (0, b)) 1 (0, a)) 0 (4, 90)) 3 (0, r4), [], g3)) rfl
        dsimp only at h
        rcases zif_ne h with ⟨hc7, h⟩ | ⟨hc7, h⟩
        · refine Or.inl ⟨hc7, ?_⟩
          have h := zm zy_40 h 6 (q := (102, dset (dset (dset (dset lf 2 (0, b)) 1 (0, a)) 0 (4, 90)) 3 (0, r4), [(4, 88)], cup g3 45 7 r4)) rfl
          dsimp only at h
          obtain ⟨g8, r9, hk, h⟩ := zcallI zy_40 h rfl rfl zy_42 zk_42
          dsimp only at hk h
          refine ⟨g8, r9, hk, ?_⟩
          exact zret zy_40 h rfl rfl
        · refine Or.inr ⟨hc7, ?_⟩
          have h := zm zy_40 h 7 (q := (102, dset (dset (dset (dset lf 2 (0, b)) 1 (0, a)) 0 (4, 90)) 3 (0, r4), [(4, 88)], cup g3 45 6 r4)) rfl
          dsimp only at h
          obtain ⟨g10, r11, hk, h⟩ := zcallI zy_40 h rfl rfl zy_42 zk_42
          dsimp only at hk h
          refine ⟨g10, r11, hk, ?_⟩
          exact zret zy_40 h rfl rfl
      · refine Or.inr ⟨hc6, ?_⟩
        have h := zm zy_40 h 7 (q := (102, dset (dset (dset (dset lf 2 (0, b)) 1 (0, a)) 0 (4, 90)) 3 (0, r4), [(4, 88)], cup g3 45 5 r4)) rfl
        dsimp only at h
        obtain ⟨g12, r13, hk, h⟩ := zcallI zy_40 h rfl rfl zy_42 zk_42
        dsimp only at hk h
        refine ⟨g12, r13, hk, ?_⟩
        exact zret zy_40 h rfl rfl
    · refine Or.inr ⟨hc5, ?_⟩
      have h := zm zy_40 h 1 (q := (55, dset (dset (dset (dset lf 2 (0, b)) 1 (0, a)) 0 (4, 90)) 3 (0, r4), [(0, 0)], g3)) rfl
      dsimp only at h
      exact zret zy_40 h rfl rfl
  · refine Or.inr ⟨hc1, ?_⟩
    have h := zm zy_40 h 3 (q := (16, dset (dset (dset lf 2 (0, b)) 1 (0, a)) 0 (4, 90), [(0, 5), (4, 88)], g)) rfl
    dsimp only at h
    obtain ⟨g14, r15, hk, h⟩ := zcallI zy_40 h rfl rfl zy_39 zk_39
    dsimp only at hk h
    refine ⟨g14, r15, hk, ?_⟩
    exact zret zy_40 h rfl rfl
theorem t_takePart {sv : Nat → Int32} {L n : Nat} {lf : dlf} {g : cg} {o : cg × Option cv} (h : zr sv L n 38 0 lf [] g o) (h0 : lf 0 = (4, 90)) : (g 88 7 = 0 ∧ (∃ g1 r2, zr sv L n 58 0 (darg 0 [(4, 90)]) [] g (g1, some (0, r2)) ∧ (o = (g1, some (0, r2))))) ∨ (g 88 7 = 1 ∧ (∃ g3 r4, zr sv L n 39 0 (darg 0 [(4, 88), (0, 2)]) [] g (g3, some (0, r4)) ∧ (o = (g3, some (0, r4))))) ∨ (g 88 7 = 2 ∧ (∃ g5 r6, zr sv L n 54 0 (darg 0 [(4, 90)]) [] g (g5, some (0, r6)) ∧ (o = (g5, some (0, r6))))) ∨ (g 88 7 = 3 ∧ (∃ g7 r8, zr sv L n 39 0 (darg 0 [(4, 88), (0, 2)]) [] g (g7, some (0, r8)) ∧ (o = (g7, some (0, r8))))) ∨ (g 88 7 = 4 ∧ (∃ g9 r10, zr sv L n 39 0 (darg 0 [(4, 88), (0, 2)]) [] g (g9, some (0, r10)) ∧ (o = (g9, some (0, r10))))) ∨ (g 88 7 = 5 ∧ (∃ g11 r12, zr sv L n 39 0 (darg 0 [(4, 88), (0, 2)]) [] g (g11, some (0, r12)) ∧ (o = (g11, some (0, r12))))) ∨ (g 88 7 = 6 ∧ (∃ g13 r14, zr sv L n 52 0 (darg 0 [(4, 90)]) [] g (g13, some (0, r14)) ∧ (o = (g13, some (0, r14))))) ∨ (g 88 7 = 7 ∧ (∃ g15 r16, zr sv L n 49 0 (darg 0 [(4, 90)]) [] g (g15, some (0, r16)) ∧ (o = (g15, some (0, r16))))) ∨ (g 88 7 = 8 ∧ (∃ g17 r18, zr sv L n 43 0 (darg 0 [(4, 90)]) [] g (g17, some (0, r18)) ∧ (o = (g17, some (0, r18))))) ∨ (g 88 7 = 9 ∧ (∃ g19 r20, zr sv L n 39 0 (darg 0 [(4, 88), (0, 2)]) [] g (g19, some (0, r20)) ∧ (o = (g19, some (0, r20))))) ∨ (g 88 7 = 10 ∧ (∃ g21 r22, zr sv L n 39 0 (darg 0 [(4, 88), (0, 2)]) [] g (g21, some (0, r22)) ∧ (o = (g21, some (0, r22))))) ∨ (g 88 7 = 11 ∧ (∃ g23 r24, zr sv L n 40 0 (darg 0 [(4, 90), (0, 11), (0, 99)]) [] g (g23, some (0, r24)) ∧ (o = (g23, some (0, r24))))) ∨ (g 88 7 = 12 ∧ (∃ g25 r26, zr sv L n 40 0 (darg 0 [(4, 90), (0, 12), (0, 99)]) [] g (g25, some (0, r26)) ∧ (o = (g25, some (0, r26))))) ∨ (g 88 7 = 13 ∧ (∃ g27 r28, zr sv L n 40 0 (darg 0 [(4, 90), (0, 13), (0, 60)]) [] g (g27, some (0, r28)) ∧ (o = (g27, some (0, r28))))) ∨ ((g 88 7 < 0 ∨ 13 < g 88 7) ∧ (∃ g29 r30, zr sv L n 39 0 (darg 0 [(4, 88), (0, 2)]) [] g (g29, some (0, r30)) ∧ (o = (g29, some (0, r30))))) := by
  rw [zov h0] at h
  have h := zm zy_38 h 3 (q := (7, dset lf 0 (4, 90), [(0, g 88 7)], g)) rfl
  dsimp only at h
  rcases ztab_0_13 (z := g 88 7) with hz | hz | hz | hz | hz | hz | hz | hz | hz | hz | hz | hz | hz | hz | hz
  · rw [hz] at h
    have h := zm zy_38 h 1 (q := (76, dset lf 0 (4, 90), [], g)) rfl
    dsimp only at h
    refine Or.inl ⟨hz, ?_⟩
    have h := zm zy_38 h 1 (q := (77, dset lf 0 (4, 90), [(4, 90)], g)) rfl
    dsimp only at h
    obtain ⟨g1, r2, hk, h⟩ := zcallI zy_38 h rfl rfl zy_58 zk_58
    dsimp only at hk h
    refine ⟨g1, r2, hk, ?_⟩
    exact zret zy_38 h rfl rfl
  · rw [hz] at h
    have h := zm zy_38 h 1 (q := (128, dset lf 0 (4, 90), [], g)) rfl
    dsimp only at h
    refine Or.inr (Or.inl ⟨hz, ?_⟩)
    have h := zm zy_38 h 3 (q := (133, dset lf 0 (4, 90), [(0, 2), (4, 88)], g)) rfl
    dsimp only at h
    obtain ⟨g3, r4, hk, h⟩ := zcallI zy_38 h rfl rfl zy_39 zk_39
    dsimp only at hk h
    refine ⟨g3, r4, hk, ?_⟩
    exact zret zy_38 h rfl rfl
  · rw [hz] at h
    have h := zm zy_38 h 1 (q := (81, dset lf 0 (4, 90), [], g)) rfl
    dsimp only at h
    refine Or.inr (Or.inr (Or.inl ⟨hz, ?_⟩))
    have h := zm zy_38 h 1 (q := (82, dset lf 0 (4, 90), [(4, 90)], g)) rfl
    dsimp only at h
    obtain ⟨g5, r6, hk, h⟩ := zcallI zy_38 h rfl rfl zy_54 zk_54
    dsimp only at hk h
    refine ⟨g5, r6, hk, ?_⟩
    exact zret zy_38 h rfl rfl
  · rw [hz] at h
    have h := zm zy_38 h 1 (q := (128, dset lf 0 (4, 90), [], g)) rfl
    dsimp only at h
    refine Or.inr (Or.inr (Or.inr (Or.inl ⟨hz, ?_⟩)))
    have h := zm zy_38 h 3 (q := (133, dset lf 0 (4, 90), [(0, 2), (4, 88)], g)) rfl
    dsimp only at h
    obtain ⟨g7, r8, hk, h⟩ := zcallI zy_38 h rfl rfl zy_39 zk_39
    dsimp only at hk h
    refine ⟨g7, r8, hk, ?_⟩
    exact zret zy_38 h rfl rfl
  · rw [hz] at h
    have h := zm zy_38 h 1 (q := (128, dset lf 0 (4, 90), [], g)) rfl
    dsimp only at h
    refine Or.inr (Or.inr (Or.inr (Or.inr (Or.inl ⟨hz, ?_⟩))))
    have h := zm zy_38 h 3 (q := (133, dset lf 0 (4, 90), [(0, 2), (4, 88)], g)) rfl
    dsimp only at h
    obtain ⟨g9, r10, hk, h⟩ := zcallI zy_38 h rfl rfl zy_39 zk_39
    dsimp only at hk h
    refine ⟨g9, r10, hk, ?_⟩
    exact zret zy_38 h rfl rfl
  · rw [hz] at h
    have h := zm zy_38 h 1 (q := (128, dset lf 0 (4, 90), [], g)) rfl
    dsimp only at h
    refine Or.inr (Or.inr (Or.inr (Or.inr (Or.inr (Or.inl ⟨hz, ?_⟩)))))
    have h := zm zy_38 h 3 (q := (133, dset lf 0 (4, 90), [(0, 2), (4, 88)], g)) rfl
    dsimp only at h
    obtain ⟨g11, r12, hk, h⟩ := zcallI zy_38 h rfl rfl zy_39 zk_39
    dsimp only at hk h
    refine ⟨g11, r12, hk, ?_⟩
    exact zret zy_38 h rfl rfl
  · rw [hz] at h
    have h := zm zy_38 h 1 (q := (86, dset lf 0 (4, 90), [], g)) rfl
    dsimp only at h
    refine Or.inr (Or.inr (Or.inr (Or.inr (Or.inr (Or.inr (Or.inl ⟨hz, ?_⟩))))))
    have h := zm zy_38 h 1 (q := (87, dset lf 0 (4, 90), [(4, 90)], g)) rfl
    dsimp only at h
    obtain ⟨g13, r14, hk, h⟩ := zcallI zy_38 h rfl rfl zy_52 zk_52
    dsimp only at hk h
    refine ⟨g13, r14, hk, ?_⟩
    exact zret zy_38 h rfl rfl
  · rw [hz] at h
    have h := zm zy_38 h 1 (q := (91, dset lf 0 (4, 90), [], g)) rfl
    dsimp only at h
    refine Or.inr (Or.inr (Or.inr (Or.inr (Or.inr (Or.inr (Or.inr (Or.inl ⟨hz, ?_⟩)))))))
    have h := zm zy_38 h 1 (q := (92, dset lf 0 (4, 90), [(4, 90)], g)) rfl
    dsimp only at h
    obtain ⟨g15, r16, hk, h⟩ := zcallI zy_38 h rfl rfl zy_49 zk_49
    dsimp only at hk h
    refine ⟨g15, r16, hk, ?_⟩
    exact zret zy_38 h rfl rfl
  · rw [hz] at h
    have h := zm zy_38 h 1 (q := (96, dset lf 0 (4, 90), [], g)) rfl
    dsimp only at h
    refine Or.inr (Or.inr (Or.inr (Or.inr (Or.inr (Or.inr (Or.inr (Or.inr (Or.inl ⟨hz, ?_⟩))))))))
    have h := zm zy_38 h 1 (q := (97, dset lf 0 (4, 90), [(4, 90)], g)) rfl
    dsimp only at h
    obtain ⟨g17, r18, hk, h⟩ := zcallI zy_38 h rfl rfl zy_43 zk_43
    dsimp only at hk h
    refine ⟨g17, r18, hk, ?_⟩
    exact zret zy_38 h rfl rfl
  · rw [hz] at h
    have h := zm zy_38 h 1 (q := (128, dset lf 0 (4, 90), [], g)) rfl
    dsimp only at h
    refine Or.inr (Or.inr (Or.inr (Or.inr (Or.inr (Or.inr (Or.inr (Or.inr (Or.inr (Or.inl ⟨hz, ?_⟩)))))))))
    have h := zm zy_38 h 3 (q := (133, dset lf 0 (4, 90), [(0, 2), (4, 88)], g)) rfl
    dsimp only at h
    obtain ⟨g19, r20, hk, h⟩ := zcallI zy_38 h rfl rfl zy_39 zk_39
    dsimp only at hk h
    refine ⟨g19, r20, hk, ?_⟩
    exact zret zy_38 h rfl rfl
  · rw [hz] at h
    have h := zm zy_38 h 1 (q := (128, dset lf 0 (4, 90), [], g)) rfl
    dsimp only at h
    refine Or.inr (Or.inr (Or.inr (Or.inr (Or.inr (Or.inr (Or.inr (Or.inr (Or.inr (Or.inr (Or.inl ⟨hz, ?_⟩))))))))))
    have h := zm zy_38 h 3 (q := (133, dset lf 0 (4, 90), [(0, 2), (4, 88)], g)) rfl
    dsimp only at h
    obtain ⟨g21, r22, hk, h⟩ := zcallI zy_38 h rfl rfl zy_39 zk_39
    dsimp only at hk h
    refine ⟨g21, r22, hk, ?_⟩
    exact zret zy_38 h rfl rfl
  · rw [hz] at h
    have h := zm zy_38 h 1 (q := (101, dset lf 0 (4, 90), [], g)) rfl
    dsimp only at h
    refine Or.inr (Or.inr (Or.inr (Or.inr (Or.inr (Or.inr (Or.inr (Or.inr (Or.inr (Or.inr (Or.inr (Or.inl ⟨hz, ?_⟩)))))))))))
    have h := zm zy_38 h 3 (q := (106, dset lf 0 (4, 90), [(0, 99), (0, 11), (4, 90)], g)) rfl
    dsimp only at h
    obtain ⟨g23, r24, hk, h⟩ := zcallI zy_38 h rfl rfl zy_40 zk_40
    dsimp only at hk h
    refine ⟨g23, r24, hk, ?_⟩
    exact zret zy_38 h rfl rfl
  · rw [hz] at h
    have h := zm zy_38 h 1 (q := (110, dset lf 0 (4, 90), [], g)) rfl
    dsimp only at h
    refine Or.inr (Or.inr (Or.inr (Or.inr (Or.inr (Or.inr (Or.inr (Or.inr (Or.inr (Or.inr (Or.inr (Or.inr (Or.inl ⟨hz, ?_⟩))))))))))))
    have h := zm zy_38 h 3 (q := (115, dset lf 0 (4, 90), [(0, 99), (0, 12), (4, 90)], g)) rfl
    dsimp only at h
    obtain ⟨g25, r26, hk, h⟩ := zcallI zy_38 h rfl rfl zy_40 zk_40
    dsimp only at hk h
    refine ⟨g25, r26, hk, ?_⟩
    exact zret zy_38 h rfl rfl
  · rw [hz] at h
    have h := zm zy_38 h 1 (q := (119, dset lf 0 (4, 90), [], g)) rfl
    dsimp only at h
    refine Or.inr (Or.inr (Or.inr (Or.inr (Or.inr (Or.inr (Or.inr (Or.inr (Or.inr (Or.inr (Or.inr (Or.inr (Or.inr (Or.inl ⟨hz, ?_⟩)))))))))))))
    have h := zm zy_38 h 3 (q := (124, dset lf 0 (4, 90), [(0, 60), (0, 13), (4, 90)], g)) rfl
    dsimp only at h
    obtain ⟨g27, r28, hk, h⟩ := zcallI zy_38 h rfl rfl zy_40 zk_40
    dsimp only at hk h
    refine ⟨g27, r28, hk, ?_⟩
    exact zret zy_38 h rfl rfl
  · have h := ztabd h zy_38 rfl hz (by decide)
    refine Or.inr (Or.inr (Or.inr (Or.inr (Or.inr (Or.inr (Or.inr (Or.inr (Or.inr (Or.inr (Or.inr (Or.inr (Or.inr (Or.inr (⟨hz, ?_⟩))))))))))))))
    have h := zm zy_38 h 3 (q := (133, dset lf 0 (4, 90), [(0, 2), (4, 88)], g)) rfl
    dsimp only at h
    obtain ⟨g29, r30, hk, h⟩ := zcallI zy_38 h rfl rfl zy_39 zk_39
    dsimp only at hk h
    refine ⟨g29, r30, hk, ?_⟩
    exact zret zy_38 h rfl rfl
theorem t_clear {sv : Nat → Int32} {L n : Nat} {lf : dlf} {g : cg} {o : cg × Option cv} (h : zr sv L n 33 0 lf [] g o) (h0 : lf 0 = (4, 45)) : ∃ g1, zr sv L n 34 0 (darg 0 [(4, 50)]) [] (cup (cup (cup (cup (cup (cup (cup g 45 0 0) 45 3 0) 45 5 5) 45 6 2) 45 7 10) 45 8 0) 45 9 0) (g1, none) ∧ (o = (g1, none)) := by
  rw [zov h0] at h
  have h := zm zy_33 h 23 (q := (40, dset lf 0 (4, 45), [(4, 50)], cup (cup (cup (cup (cup (cup (cup g 45 0 0) 45 3 0) 45 5 5) 45 6 2) 45 7 10) 45 8 0) 45 9 0)) rfl
  dsimp only at h
  obtain ⟨g1, hk, h⟩ := zcallV zy_33 h rfl rfl zy_34 zk_34
  dsimp only at hk h
  refine ⟨g1, hk, ?_⟩
  exact zret zy_33 h rfl rfl
theorem t_tclear {sv : Nat → Int32} {L n : Nat} {lf : dlf} {g : cg} {o : cg × Option cv} (h : zr sv L n 34 0 lf [] g o) (h0 : lf 0 = (4, 50)) : o = (cup (cup (cup g 50 0 0) 50 1 0) 50 2 0, none) := by
  rw [zov h0] at h
  have h := zm zy_34 h 9 (q := (15, dset lf 0 (4, 50), [], cup (cup (cup g 50 0 0) 50 1 0) 50 2 0)) rfl
  dsimp only at h
  exact zret zy_34 h rfl rfl
theorem t_tbegin {sv : Nat → Int32} {L n : Nat} {lf : dlf} {g : cg} {o : cg × Option cv} {a : Int} (h : zr sv L n 35 0 lf [] g o) (h0 : lf 0 = (4, 88)) (h1 : lf 1 = (0, a)) : ∃ g1 r2, zr sv L n 36 0 (darg 0 [(0, a), (0, 900)]) [] g (g1, some (0, r2)) ∧ (∃ g3, zr sv L n 37 0 (darg 0 [(4, 88)]) [] (cup (cup (cup (cup g1 88 2 r2) 88 3 0) 88 10 0) 88 11 ((-1))) (g3, none) ∧ (o = (g3, none))) := by
  rw [zov h0, zov h1] at h
  have h := zm zy_35 h 5 (q := (7, dset (dset lf 1 (0, a)) 0 (4, 88), [(0, 900), (0, a), (4, 88)], g)) rfl
  dsimp only at h
  obtain ⟨g1, r2, hk, h⟩ := zcallI zy_35 h rfl rfl zy_36 zk_36
  dsimp only at hk h
  refine ⟨g1, r2, hk, ?_⟩
  have h := zm zy_35 h 11 (q := (29, dset (dset lf 1 (0, a)) 0 (4, 88), [(4, 88)], cup (cup (cup (cup g1 88 2 r2) 88 3 0) 88 10 0) 88 11 ((-1)))) rfl
  dsimp only at h
  obtain ⟨g3, hk, h⟩ := zcallV zy_35 h rfl rfl zy_37 zk_37
  dsimp only at hk h
  refine ⟨g3, hk, ?_⟩
  exact zret zy_35 h rfl rfl
theorem t_takeCt0 {sv : Nat → Int32} {L n : Nat} {lf : dlf} {g : cg} {o : cg × Option cv} {a : Int} (h : zr sv L n 32 0 lf [] g o) (h0 : lf 0 = (4, 90)) (h1 : lf 1 = (0, a)) : ∃ g1, zr sv L n 33 0 (darg 0 [(4, 45)]) [] g (g1, none) ∧ (∃ g2, zr sv L n 35 0 (darg 0 [(4, 88), (0, a)]) [] (cup g1 90 4 0) (g2, none) ∧ (∃ lf'3, lf'3 0 = (4, 90) ∧ lf'3 2 = (0, 0) ∧ zr sv L n 32 22 lf'3 [] g2 o)) := by
  rw [zov h0, zov h1] at h
  have h := zm zy_32 h 2 (q := (4, dset (dset lf 1 (0, a)) 0 (4, 90), [(4, 45)], g)) rfl
  dsimp only at h
  obtain ⟨g1, hk, h⟩ := zcallV zy_32 h rfl rfl zy_33 zk_33
  dsimp only at hk h
  refine ⟨g1, hk, ?_⟩
  have h := zm zy_32 h 6 (q := (17, dset (dset lf 1 (0, a)) 0 (4, 90), [(0, a), (4, 88)], cup g1 90 4 0)) rfl
  dsimp only at h
  obtain ⟨g2, hk, h⟩ := zcallV zy_32 h rfl rfl zy_35 zk_35
  dsimp only at hk h
  refine ⟨g2, hk, ?_⟩
  have h := zm zy_32 h 2 (q := (22, dset (dset (dset lf 1 (0, a)) 0 (4, 90)) 2 (0, 0), [], g2)) rfl
  dsimp only at h
  exact ⟨_, rfl, rfl, h⟩
theorem t_takeCt22 {sv : Nat → Int32} {L n : Nat} {lf : dlf} {g : cg} {o : cg × Option cv} {b : Int} (h : zr sv L (n + 1) 32 22 lf [] g o) (h0 : lf 0 = (4, 90)) (h2 : lf 2 = (0, b)) : (900 ≤ b ∧ (o = (g, some (0, 1)))) ∨ (b < 900 ∧ ((g 88 4 = 0 ∧ (o = (g, some (0, 1)))) ∨ (g 88 4 ≠ 0 ∧ (∃ g3 r4, zr sv L n 38 0 (darg 0 [(4, 90)]) [] g (g3, some (0, r4)) ∧ ((r4 ≠ 0 ∧ (∃ lf'6, lf'6 0 = (4, 90) ∧ lf'6 2 = (0, w32 (b + 1)) ∧ zr sv L n 32 22 lf'6 [] g3 o)) ∨ (r4 = 0 ∧ (o = (g3, some (0, 0))))))))) := by
  rw [zov h0, zov h2] at h
  have h := zm1 zy_32 h 2 (q := (cond (crel .ge b 900) 54 29, dset (dset lf 2 (0, b)) 0 (4, 90), [], g)) rfl
  dsimp only at h
  rcases zif_ge h with ⟨hc1, h⟩ | ⟨hc1, h⟩
  · refine Or.inl ⟨hc1, ?_⟩
    have h := zm zy_32 h 1 (q := (55, dset (dset lf 2 (0, b)) 0 (4, 90), [(0, 1)], g)) rfl
    dsimp only at h
    exact zret zy_32 h rfl rfl
  · refine Or.inr ⟨hc1, ?_⟩
    have h := zm zy_32 h 4 (q := (cond (crel .eq (g 88 4) 0) 54 39, dset (dset lf 2 (0, b)) 0 (4, 90), [], g)) rfl
    dsimp only at h
    rcases zif_eq h with ⟨hc2, h⟩ | ⟨hc2, h⟩
    · refine Or.inl ⟨hc2, ?_⟩
      have h := zm zy_32 h 1 (q := (55, dset (dset lf 2 (0, b)) 0 (4, 90), [(0, 1)], g)) rfl
      dsimp only at h
      exact zret zy_32 h rfl rfl
    · refine Or.inr ⟨hc2, ?_⟩
      have h := zm zy_32 h 1 (q := (40, dset (dset lf 2 (0, b)) 0 (4, 90), [(4, 90)], g)) rfl
      dsimp only at h
      obtain ⟨g3, r4, hk, h⟩ := zcallI zy_32 h rfl rfl zy_38 zk_38
      dsimp only at hk h
      refine ⟨g3, r4, hk, ?_⟩
      have h := zm zy_32 h 1 (q := (cond (crel .ne r4 0) 48 46, dset (dset lf 2 (0, b)) 0 (4, 90), [], g3)) rfl
      dsimp only at h
      rcases zif_ne h with ⟨hc5, h⟩ | ⟨hc5, h⟩
      · refine Or.inl ⟨hc5, ?_⟩
        have h := zm zy_32 h 2 (q := (22, dset (dset (dset lf 2 (0, b)) 0 (4, 90)) 2 (0, w32 (b + 1)), [], g3)) rfl
        dsimp only at h
        exact ⟨_, rfl, rfl, h⟩
      · refine Or.inr ⟨hc5, ?_⟩
        have h := zm zy_32 h 1 (q := (47, dset (dset lf 2 (0, b)) 0 (4, 90), [(0, 0)], g3)) rfl
        dsimp only at h
        exact zret zy_32 h rfl rfl
theorem t_within {sv : Nat → Int32} {L n : Nat} {lf : dlf} {g : cg} {o : cg × Option cv} {a b c : Int} (h : zr sv L n 23 0 lf [] g o) (h0 : lf 0 = (0, a)) (h1 : lf 1 = (0, b)) (h2 : lf 2 = (0, c)) : (a < b ∧ (o = (g, some (0, 0)))) ∨ (b ≤ a ∧ ((c < a ∧ (o = (g, some (0, 0)))) ∨ (a ≤ c ∧ (o = (g, some (0, 1)))))) := by
  rw [zov h0, zov h1, zov h2] at h
  have h := zm zy_23 h 3 (q := (cond (crel .lt a b) 14 5, dset (dset (dset lf 2 (0, c)) 1 (0, b)) 0 (0, a), [], g)) rfl
  dsimp only at h
  rcases zif_lt h with ⟨hc1, h⟩ | ⟨hc1, h⟩
  · refine Or.inl ⟨hc1, ?_⟩
    have h := zm zy_23 h 1 (q := (15, dset (dset (dset lf 2 (0, c)) 1 (0, b)) 0 (0, a), [(0, 0)], g)) rfl
    dsimp only at h
    exact zret zy_23 h rfl rfl
  · refine Or.inr ⟨hc1, ?_⟩
    have h := zm zy_23 h 3 (q := (cond (crel .gt a c) 14 10, dset (dset (dset lf 2 (0, c)) 1 (0, b)) 0 (0, a), [], g)) rfl
    dsimp only at h
    rcases zif_gt h with ⟨hc2, h⟩ | ⟨hc2, h⟩
    · refine Or.inl ⟨hc2, ?_⟩
      have h := zm zy_23 h 1 (q := (15, dset (dset (dset lf 2 (0, c)) 1 (0, b)) 0 (0, a), [(0, 0)], g)) rfl
      dsimp only at h
      exact zret zy_23 h rfl rfl
    · refine Or.inr ⟨hc2, ?_⟩
      have h := zm zy_23 h 2 (q := (15, dset (dset (dset lf 2 (0, c)) 1 (0, b)) 0 (0, a), [(0, 1)], g)) rfl
      dsimp only at h
      exact zret zy_23 h rfl rfl
theorem t_refuse {sv : Nat → Int32} {L n : Nat} {lf : dlf} {g : cg} {o : cg × Option cv} {a : Int} (h : zr sv L n 29 0 lf [] g o) (h0 : lf 0 = (4, 0)) (h1 : lf 1 = (0, a)) : o = (cup g 0 0 a, some (0, (-1))) := by
  rw [zov h0, zov h1] at h
  have h := zm zy_29 h 4 (q := (6, dset (dset lf 1 (0, a)) 0 (4, 0), [(0, (-1))], cup g 0 0 a)) rfl
  dsimp only at h
  exact zret zy_29 h rfl rfl
theorem t_give {sv : Nat → Int32} {L n : Nat} {lf : dlf} {g : cg} {o : cg × Option cv} {a : Int} (h : zr sv L n 64 0 lf [] g o) (h0 : lf 0 = (4, 0)) (h1 : lf 1 = (0, a)) : o = (cup g 0 0 0, some (0, a)) := by
  rw [zov h0, zov h1] at h
  have h := zm zy_64 h 4 (q := (6, dset (dset lf 1 (0, a)) 0 (4, 0), [(0, a)], cup g 0 0 0)) rfl
  dsimp only at h
  exact zret zy_64 h rfl rfl
theorem t_court {sv : Nat → Int32} {L n : Nat} {lf : dlf} {g : cg} {o : cg × Option cv} {a : Int} (h : zr sv L n 273 0 lf [] g o) (h0 : lf 0 = (4, 0)) (h1 : lf 1 = (0, a)) : ∃ g1 r2, zr sv L n 23 0 (darg 0 [(0, a), (0, 0), (0, g 0 5)]) [] g (g1, some (0, r2)) ∧ ((r2 ≠ 0 ∧ (∃ g4 r5, zr sv L n 32 0 (darg 0 [(4, 90), (0, a)]) [] (cup g1 0 5 0) (g4, some (0, r5)) ∧ ((r5 ≠ 0 ∧ (∃ g7, zr sv L n 59 0 (darg 0 [(4, 3), (4, 45)]) [] g4 (g7, none) ∧ (∃ g8 r9, zr sv L n 64 0 (darg 0 [(4, 0), (0, g7 3 3)]) [] g7 (g8, some (0, r9)) ∧ (o = (g8, some (0, r9)))))) ∨ (r5 = 0 ∧ (∃ g10 r11, zr sv L n 29 0 (darg 0 [(4, 0), (0, 9)]) [] g4 (g10, some (0, r11)) ∧ (o = (g10, some (0, r11)))))))) ∨ (r2 = 0 ∧ (∃ g12 r13, zr sv L n 29 0 (darg 0 [(4, 0), (0, 1)]) [] g1 (g12, some (0, r13)) ∧ (o = (g12, some (0, r13)))))) := by
  rw [zov h0, zov h1] at h
  have h := zm zy_273 h 4 (q := (6, dset (dset lf 1 (0, a)) 0 (4, 0), [(0, g 0 5), (0, 0), (0, a)], g)) rfl
  dsimp only at h
  obtain ⟨g1, r2, hk, h⟩ := zcallI zy_273 h rfl rfl zy_23 zk_23
  dsimp only at hk h
  refine ⟨g1, r2, hk, ?_⟩
  have h := zm zy_273 h 1 (q := (cond (crel .ne r2 0) 18 12, dset (dset lf 1 (0, a)) 0 (4, 0), [], g1)) rfl
  dsimp only at h
  rcases zif_ne h with ⟨hc3, h⟩ | ⟨hc3, h⟩
  · refine Or.inl ⟨hc3, ?_⟩
    have h := zm zy_273 h 6 (q := (28, dset (dset lf 1 (0, a)) 0 (4, 0), [(0, a), (4, 90)], cup g1 0 5 0)) rfl
    dsimp only at h
    obtain ⟨g4, r5, hk, h⟩ := zcallI zy_273 h rfl rfl zy_32 zk_32
    dsimp only at hk h
    refine ⟨g4, r5, hk, ?_⟩
    have h := zm zy_273 h 1 (q := (cond (crel .ne r5 0) 41 34, dset (dset lf 1 (0, a)) 0 (4, 0), [], g4)) rfl
    dsimp only at h
    rcases zif_ne h with ⟨hc6, h⟩ | ⟨hc6, h⟩
    · refine Or.inl ⟨hc6, ?_⟩
      have h := zm zy_273 h 4 (q := (49, dset (dset lf 1 (0, a)) 0 (4, 0), [(4, 45), (4, 3)], g4)) rfl
      dsimp only at h
      obtain ⟨g7, hk, h⟩ := zcallV zy_273 h rfl rfl zy_59 zk_59
      dsimp only at hk h
      refine ⟨g7, hk, ?_⟩
      have h := zm zy_273 h 4 (q := (60, dset (dset lf 1 (0, a)) 0 (4, 0), [(0, g7 3 3), (4, 0)], g7)) rfl
      dsimp only at h
      obtain ⟨g8, r9, hk, h⟩ := zcallI zy_273 h rfl rfl zy_64 zk_64
      dsimp only at hk h
      refine ⟨g8, r9, hk, ?_⟩
      exact zret zy_273 h rfl rfl
    · refine Or.inr ⟨hc6, ?_⟩
      have h := zm zy_273 h 2 (q := (37, dset (dset lf 1 (0, a)) 0 (4, 0), [(0, 9), (4, 0)], g4)) rfl
      dsimp only at h
      obtain ⟨g10, r11, hk, h⟩ := zcallI zy_273 h rfl rfl zy_29 zk_29
      dsimp only at hk h
      refine ⟨g10, r11, hk, ?_⟩
      exact zret zy_273 h rfl rfl
  · refine Or.inr ⟨hc3, ?_⟩
    have h := zm zy_273 h 2 (q := (14, dset (dset lf 1 (0, a)) 0 (4, 0), [(0, 1), (4, 0)], g1)) rfl
    dsimp only at h
    obtain ⟨g12, r13, hk, h⟩ := zcallI zy_273 h rfl rfl zy_29 zk_29
    dsimp only at hk h
    refine ⟨g12, r13, hk, ?_⟩
    exact zret zy_273 h rfl rfl
end
