/-! what the tokenizers say: printed by program (wip/tools/ztok.py) -/
section
set_option maxRecDepth 100000
theorem zy_36 : xg xcode 36 = some xt_36 := rfl
theorem zk_36 : zkc 1 xt_36 = true := by decide +kernel
theorem zy_37 : xg xcode 37 = some xt_37 := rfl
theorem zk_37 : zkc 0 xt_37 = true := by decide +kernel
theorem zy_166 : xg xcode 166 = some xt_166 := rfl
theorem zk_166 : zkc 0 xt_166 = true := by decide +kernel
theorem zy_167 : xg xcode 167 = some xt_167 := rfl
theorem zk_167 : zkc 1 xt_167 = true := by decide +kernel
theorem zy_168 : xg xcode 168 = some xt_168 := rfl
theorem zk_168 : zkc 1 xt_168 = true := by decide +kernel
theorem zy_169 : xg xcode 169 = some xt_169 := rfl
theorem zk_169 : zkc 1 xt_169 = true := by decide +kernel
theorem dvb_2 {g : cg} {i : Int} (h0 : 0 ≤ i) (h1 : i < 900) : dval xh2 g 2 i.toNat = (0, g 2 i.toNat) := dvb (show zck 2 15 900 = true by decide +kernel) (by decide) h0 h1
theorem dvb_89 {g : cg} {i : Int} (h0 : 0 ≤ i) (h1 : i < 25) : dval xh2 g 89 i.toNat = (2, g 89 i.toNat) := dvbL (show zck 89 14 25 = true by decide +kernel) (by decide) h0 h1
theorem dvb_260 {g : cg} {i : Int} (h0 : 0 ≤ i) (h1 : i < 900) : dval xh2 g 260 i.toNat = (0, g 260 i.toNat) := dvb (show zck 260 15 900 = true by decide +kernel) (by decide) h0 h1
theorem t_isSmall {sv : Nat → Int32} {L n : Nat} {lf : dlf} {g : cg} {o : cg × Option cv} {a : Int} (h : zr sv L n 168 0 lf [] g o) (h0 : lf 0 = (0, a)) : (a < 97 ∧ (o = (g, some (0, 0)))) ∨ (97 ≤ a ∧ ((122 < a ∧ (o = (g, some (0, 0)))) ∨ (a ≤ 122 ∧ (o = (g, some (0, 1)))))) := by
  rw [zov h0] at h
  have h := zm zy_168 h 3 (q := (cond (crel .lt a 97) 16 6, dset lf 0 (0, a), [], g)) rfl
  dsimp only at h
  rcases zif_lt h with ⟨hc1, h⟩ | ⟨hc1, h⟩
  · refine Or.inl ⟨hc1, ?_⟩
    have h := zm zy_168 h 1 (q := (17, dset lf 0 (0, a), [(0, 0)], g)) rfl
    dsimp only at h
    exact zret zy_168 h rfl rfl
  · refine Or.inr ⟨hc1, ?_⟩
    have h := zm zy_168 h 3 (q := (cond (crel .gt a 122) 16 12, dset lf 0 (0, a), [], g)) rfl
    dsimp only at h
    rcases zif_gt h with ⟨hc2, h⟩ | ⟨hc2, h⟩
    · refine Or.inl ⟨hc2, ?_⟩
      have h := zm zy_168 h 1 (q := (17, dset lf 0 (0, a), [(0, 0)], g)) rfl
      dsimp only at h
      exact zret zy_168 h rfl rfl
    · refine Or.inr ⟨hc2, ?_⟩
      have h := zm zy_168 h 2 (q := (17, dset lf 0 (0, a), [(0, 1)], g)) rfl
      dsimp only at h
      exact zret zy_168 h rfl rfl
theorem t_isDigit {sv : Nat → Int32} {L n : Nat} {lf : dlf} {g : cg} {o : cg × Option cv} {a : Int} (h : zr sv L n 169 0 lf [] g o) (h0 : lf 0 = (0, a)) : (a < 48 ∧ (o = (g, some (0, 0)))) ∨ (48 ≤ a ∧ ((57 < a ∧ (o = (g, some (0, 0)))) ∨ (a ≤ 57 ∧ (o = (g, some (0, 1)))))) := by
  rw [zov h0] at h
  have h := zm zy_169 h 3 (q := (cond (crel .lt a 48) 16 6, dset lf 0 (0, a), [], g)) rfl
  dsimp only at h
  rcases zif_lt h with ⟨hc1, h⟩ | ⟨hc1, h⟩
  · refine Or.inl ⟨hc1, ?_⟩
    have h := zm zy_169 h 1 (q := (17, dset lf 0 (0, a), [(0, 0)], g)) rfl
    dsimp only at h
    exact zret zy_169 h rfl rfl
  · refine Or.inr ⟨hc1, ?_⟩
    have h := zm zy_169 h 3 (q := (cond (crel .gt a 57) 16 12, dset lf 0 (0, a), [], g)) rfl
    dsimp only at h
    rcases zif_gt h with ⟨hc2, h⟩ | ⟨hc2, h⟩
    · refine Or.inl ⟨hc2, ?_⟩
      have h := zm zy_169 h 1 (q := (17, dset lf 0 (0, a), [(0, 0)], g)) rfl
      dsimp only at h
      exact zret zy_169 h rfl rfl
    · refine Or.inr ⟨hc2, ?_⟩
      have h := zm zy_169 h 2 (q := (17, dset lf 0 (0, a), [(0, 1)], g)) rfl
      dsimp only at h
      exact zret zy_169 h rfl rfl
theorem t_byteAt {sv : Nat → Int32} {L n : Nat} {lf : dlf} {g : cg} {o : cg × Option cv} {a : Int} (h : zr sv L n 167 0 lf [] g o) (h0 : lf 0 = (4, 253)) (h1 : lf 1 = (0, a)) : (g 253 11 ≤ a ∧ (o = (g, some (0, (-1))))) ∨ (a < g 253 11 ∧ (0 ≤ a → a < 900 → (o = (g, some (0, (i32 (g 260 ((a).toNat)) &&& i32 255).toInt))))) := by
  rw [zov h0, zov h1] at h
  have h := zm zy_167 h 4 (q := (cond (crel .ge a (g 253 11)) 21 8, dset (dset lf 1 (0, a)) 0 (4, 253), [], g)) rfl
  dsimp only at h
  rcases zif_ge h with ⟨hc1, h⟩ | ⟨hc1, h⟩
  · refine Or.inl ⟨hc1, ?_⟩
    have h := zm zy_167 h 1 (q := (22, dset (dset lf 1 (0, a)) 0 (4, 253), [(0, (-1))], g)) rfl
    dsimp only at h
    exact zret zy_167 h rfl rfl
  · refine Or.inr ⟨hc1, ?_⟩
    intro ha2 hb3
    have h := zm zy_167 h 3 (q := (13, dset (dset lf 1 (0, a)) 0 (4, 253), [(0, a), (4, 260)], g)) rfl
    dsimp only at h
    have h := zald zy_167 h rfl rfl (dvb_260 ha2 hb3)
    have h : zr sv L n 167 14 (dset (dset lf 1 (0, a)) 0 (4, 253)) [(0, g 260 ((a).toNat))] (g) o := h
    have h := zm zy_167 h 3 (q := (22, dset (dset lf 1 (0, a)) 0 (4, 253), [(0, (i32 (g 260 ((a).toNat)) &&& i32 255).toInt)], g)) rfl
    dsimp only at h
    exact zret zy_167 h rfl rfl
theorem t_min {sv : Nat → Int32} {L n : Nat} {lf : dlf} {g : cg} {o : cg × Option cv} {a b : Int} (h : zr sv L n 36 0 lf [] g o) (h0 : lf 0 = (0, a)) (h1 : lf 1 = (0, b)) : (b < a ∧ (o = (g, some (0, b)))) ∨ (a ≤ b ∧ (o = (g, some (0, a)))) := by
  rw [zov h0, zov h1] at h
  have h := zm zy_36 h 3 (q := (cond (crel .gt a b) 9 5, dset (dset lf 1 (0, b)) 0 (0, a), [], g)) rfl
  dsimp only at h
  rcases zif_gt h with ⟨hc1, h⟩ | ⟨hc1, h⟩
  · refine Or.inl ⟨hc1, ?_⟩
    have h := zm zy_36 h 1 (q := (10, dset (dset lf 1 (0, b)) 0 (0, a), [(0, b)], g)) rfl
    dsimp only at h
    exact zret zy_36 h rfl rfl
  · refine Or.inr ⟨hc1, ?_⟩
    have h := zm zy_36 h 2 (q := (10, dset (dset lf 1 (0, b)) 0 (0, a), [(0, a)], g)) rfl
    dsimp only at h
    exact zret zy_36 h rfl rfl
theorem t_adv0 {sv : Nat → Int32} {L n : Nat} {lf : dlf} {g : cg} {o : cg × Option cv} (h : zr sv L (n + 1) 37 0 lf [] g o) (h0 : lf 0 = (4, 88)) : (g 88 2 ≤ g 88 3 ∧ (∃ lf'2, lf'2 0 = (4, 88) ∧ zr sv L n 37 52 lf'2 [] g o)) ∨ (g 88 3 < g 88 2 ∧ (0 ≤ g 88 3 → g 88 3 < 900 → ((g 2 ((g 88 3).toNat) = 32 ∧ (∃ lf'6, lf'6 0 = (4, 88) ∧ zr sv L n 37 0 lf'6 [] (cup g 88 3 (w32 ((g 88 3) + 1))) o)) ∨ (g 2 ((g 88 3).toNat) ≠ 32 ∧ ((g 2 ((g 88 3).toNat) ≠ 10 ∧ (∃ lf'8, lf'8 0 = (4, 88) ∧ zr sv L n 37 52 lf'8 [] g o)) ∨ (g 2 ((g 88 3).toNat) = 10 ∧ (∃ lf'9, lf'9 0 = (4, 88) ∧ zr sv L n 37 0 lf'9 [] (cup g 88 3 (w32 ((g 88 3) + 1))) o))))))) := by
  rw [zov h0] at h
  have h := zm1 zy_37 h 4 (q := (cond (crel .ge (g 88 3) (g 88 2)) 52 11, dset lf 0 (4, 88), [], g)) rfl
  dsimp only at h
  rcases zif_ge h with ⟨hc1, h⟩ | ⟨hc1, h⟩
  · refine Or.inl ⟨hc1, ?_⟩
    exact ⟨_, rfl, h⟩
  · refine Or.inr ⟨hc1, ?_⟩
    intro ha3 hb4
    have h := zm zy_37 h 4 (q := (19, dset lf 0 (4, 88), [(0, g 88 3), (4, 2)], g)) rfl
    dsimp only at h
    have h := zald zy_37 h rfl rfl (dvb_2 ha3 hb4)
    have h : zr sv L n 37 20 (dset lf 0 (4, 88)) [(0, g 2 ((g 88 3).toNat))] (g) o := h
    have h := zm zy_37 h 2 (q := (cond (crel .eq (g 2 ((g 88 3).toNat)) 32) 39 25, dset lf 0 (4, 88), [], g)) rfl
    dsimp only at h
    rcases zif_eq h with ⟨hc5, h⟩ | ⟨hc5, h⟩
    · refine Or.inl ⟨hc5, ?_⟩
      have h := zm zy_37 h 7 (q := (0, dset lf 0 (4, 88), [], cup g 88 3 (w32 ((g 88 3) + 1)))) rfl
      dsimp only at h
      exact ⟨_, rfl, h⟩
    · refine Or.inr ⟨hc5, ?_⟩
      have h := zm zy_37 h 4 (q := (33, dset lf 0 (4, 88), [(0, g 88 3), (4, 2)], g)) rfl
      dsimp only at h
      have h := zald zy_37 h rfl rfl (dvb_2 ha3 hb4)
      have h : zr sv L n 37 34 (dset lf 0 (4, 88)) [(0, g 2 ((g 88 3).toNat))] (g) o := h
      have h := zm zy_37 h 2 (q := (cond (crel .ne (g 2 ((g 88 3).toNat)) 10) 52 39, dset lf 0 (4, 88), [], g)) rfl
      dsimp only at h
      rcases zif_ne h with ⟨hc7, h⟩ | ⟨hc7, h⟩
      · refine Or.inl ⟨hc7, ?_⟩
        exact ⟨_, rfl, h⟩
      · refine Or.inr ⟨hc7, ?_⟩
        have h := zm zy_37 h 7 (q := (0, dset lf 0 (4, 88), [], cup g 88 3 (w32 ((g 88 3) + 1)))) rfl
        dsimp only at h
        exact ⟨_, rfl, h⟩
theorem t_adv52 {sv : Nat → Int32} {L n : Nat} {lf : dlf} {g : cg} {o : cg × Option cv} (h : zr sv L n 37 52 lf [] g o) (h0 : lf 0 = (4, 88)) : (g 88 2 ≤ g 88 3 ∧ (o = (cup (cup (cup (cup (cup (cup g 88 5 (g 88 3)) 88 7 ((-1))) 88 6 0) 88 8 0) 88 9 0) 88 4 0, none))) ∨ (g 88 3 < g 88 2 ∧ (0 ≤ g 88 3 → g 88 3 < 900 → ((g 2 ((g 88 3).toNat) < 97 ∧ ((g 2 ((g 88 3).toNat) < 48 ∧ (∃ lf'8, lf'8 0 = (4, 88) ∧ zr sv L n 37 453 lf'8 [] (cup (cup (cup (cup (cup g 88 5 (g 88 3)) 88 7 ((-1))) 88 6 0) 88 8 0) 88 9 (g 2 ((g 88 3).toNat))) o)) ∨ (48 ≤ g 2 ((g 88 3).toNat) ∧ ((57 < g 2 ((g 88 3).toNat) ∧ (∃ lf'10, lf'10 0 = (4, 88) ∧ zr sv L n 37 453 lf'10 [] (cup (cup (cup (cup (cup g 88 5 (g 88 3)) 88 7 ((-1))) 88 6 0) 88 8 0) 88 9 (g 2 ((g 88 3).toNat))) o)) ∨ (g 2 ((g 88 3).toNat) ≤ 57 ∧ (∃ lf'11, lf'11 0 = (4, 88) ∧ zr sv L n 37 331 lf'11 [] (cup (cup (cup (cup (cup g 88 5 (g 88 3)) 88 7 ((-1))) 88 6 0) 88 8 0) 88 9 (g 2 ((g 88 3).toNat))) o)))))) ∨ (97 ≤ g 2 ((g 88 3).toNat) ∧ ((122 < g 2 ((g 88 3).toNat) ∧ (∃ lf'15, lf'15 0 = (4, 88) ∧ zr sv L n 37 453 lf'15 [] (cup (cup (cup (cup (cup g 88 5 (g 88 3)) 88 7 ((-1))) 88 6 0) 88 8 0) 88 9 (g 2 ((g 88 3).toNat))) o)) ∨ (g 2 ((g 88 3).toNat) ≤ 122 ∧ (∃ lf'16, lf'16 0 = (4, 88) ∧ zr sv L n 37 140 lf'16 [] (cup (cup (cup (cup (cup g 88 5 (g 88 3)) 88 7 ((-1))) 88 6 0) 88 8 0) 88 9 (g 2 ((g 88 3).toNat))) o))))))) := by
  rw [zov h0] at h
  have h := zm zy_37 h 19 (q := (cond (crel .ge (g 88 3) (g 88 2)) 99 87, dset lf 0 (4, 88), [(4, 88)], cup (cup (cup (cup g 88 5 (g 88 3)) 88 7 ((-1))) 88 6 0) 88 8 0)) rfl
  dsimp only at h
  rcases zif_ge h with ⟨hc1, h⟩ | ⟨hc1, h⟩
  · refine Or.inl ⟨hc1, ?_⟩
    have h := zm zy_37 h 7 (q := (cond (crel .lt (g 88 3) (g 88 2)) 122 114, dset lf 0 (4, 88), [], cup (cup (cup (cup (cup g 88 5 (g 88 3)) 88 7 ((-1))) 88 6 0) 88 8 0) 88 9 0)) rfl
    dsimp only at h
    rcases zif_lt h with ⟨hc2, h⟩ | ⟨hc2, h⟩
    · exact absurd hc2 (by omega)
    · have h := zm zy_37 h 4 (q := (513, dset lf 0 (4, 88), [], cup (cup (cup (cup (cup (cup g 88 5 (g 88 3)) 88 7 ((-1))) 88 6 0) 88 8 0) 88 9 0) 88 4 0)) rfl
      dsimp only at h
      exact zret zy_37 h rfl rfl
  · refine Or.inr ⟨hc1, ?_⟩
    intro ha3 hb4
    have h := zm zy_37 h 4 (q := (95, dset lf 0 (4, 88), [(0, g 88 3), (4, 2), (4, 88)], cup (cup (cup (cup g 88 5 (g 88 3)) 88 7 ((-1))) 88 6 0) 88 8 0)) rfl
    dsimp only at h
    have h := zald zy_37 h rfl rfl (dvb_2 ha3 hb4)
    have h : zr sv L n 37 96 (dset lf 0 (4, 88)) [(0, g 2 ((g 88 3).toNat)), (4, 88)] (cup (cup (cup (cup g 88 5 (g 88 3)) 88 7 ((-1))) 88 6 0) 88 8 0) o := h
    have h := zm zy_37 h 7 (q := (cond (crel .lt (g 88 3) (g 88 2)) 122 114, dset lf 0 (4, 88), [], cup (cup (cup (cup (cup g 88 5 (g 88 3)) 88 7 ((-1))) 88 6 0) 88 8 0) 88 9 (g 2 ((g 88 3).toNat)))) rfl
    dsimp only at h
    rcases zif_lt h with ⟨hc5, h⟩ | ⟨hc5, h⟩
    · have h := zm zy_37 h 4 (q := (cond (crel .lt (g 2 ((g 88 3).toNat)) 97) 313 131, dset lf 0 (4, 88), [], cup (cup (cup (cup (cup g 88 5 (g 88 3)) 88 7 ((-1))) 88 6 0) 88 8 0) 88 9 (g 2 ((g 88 3).toNat)))) rfl
      dsimp only at h
      rcases zif_lt h with ⟨hc6, h⟩ | ⟨hc6, h⟩
      · refine Or.inl ⟨hc6, ?_⟩
        have h := zm zy_37 h 4 (q := (cond (crel .lt (g 2 ((g 88 3).toNat)) 48) 453 322, dset lf 0 (4, 88), [], cup (cup (cup (cup (cup g 88 5 (g 88 3)) 88 7 ((-1))) 88 6 0) 88 8 0) 88 9 (g 2 ((g 88 3).toNat)))) rfl
        dsimp only at h
        rcases zif_lt h with ⟨hc7, h⟩ | ⟨hc7, h⟩
        · refine Or.inl ⟨hc7, ?_⟩
          exact ⟨_, rfl, h⟩
        · refine Or.inr ⟨hc7, ?_⟩
          have h := zm zy_37 h 4 (q := (cond (crel .gt (g 2 ((g 88 3).toNat)) 57) 453 331, dset lf 0 (4, 88), [], cup (cup (cup (cup (cup g 88 5 (g 88 3)) 88 7 ((-1))) 88 6 0) 88 8 0) 88 9 (g 2 ((g 88 3).toNat)))) rfl
          dsimp only at h
          rcases zif_gt h with ⟨hc9, h⟩ | ⟨hc9, h⟩
          · refine Or.inl ⟨hc9, ?_⟩
            exact ⟨_, rfl, h⟩
          · refine Or.inr ⟨hc9, ?_⟩
            exact ⟨_, rfl, h⟩
      · refine Or.inr ⟨hc6, ?_⟩
        have h := zm zy_37 h 4 (q := (cond (crel .gt (g 2 ((g 88 3).toNat)) 122) 313 140, dset lf 0 (4, 88), [], cup (cup (cup (cup (cup g 88 5 (g 88 3)) 88 7 ((-1))) 88 6 0) 88 8 0) 88 9 (g 2 ((g 88 3).toNat)))) rfl
        dsimp only at h
        rcases zif_gt h with ⟨hc12, h⟩ | ⟨hc12, h⟩
        · refine Or.inl ⟨hc12, ?_⟩
          have h := zm zy_37 h 4 (q := (cond (crel .lt (g 2 ((g 88 3).toNat)) 48) 453 322, dset lf 0 (4, 88), [], cup (cup (cup (cup (cup g 88 5 (g 88 3)) 88 7 ((-1))) 88 6 0) 88 8 0) 88 9 (g 2 ((g 88 3).toNat)))) rfl
          dsimp only at h
          rcases zif_lt h with ⟨hc13, h⟩ | ⟨hc13, h⟩
          · exact absurd hc13 (by omega)
          · have h := zm zy_37 h 4 (q := (cond (crel .gt (g 2 ((g 88 3).toNat)) 57) 453 331, dset lf 0 (4, 88), [], cup (cup (cup (cup (cup g 88 5 (g 88 3)) 88 7 ((-1))) 88 6 0) 88 8 0) 88 9 (g 2 ((g 88 3).toNat)))) rfl
            dsimp only at h
            rcases zif_gt h with ⟨hc14, h⟩ | ⟨hc14, h⟩
            · exact ⟨_, rfl, h⟩
            · exact absurd hc14 (by omega)
        · refine Or.inr ⟨hc12, ?_⟩
          exact ⟨_, rfl, h⟩
    · exact absurd hc5 (by omega)
theorem t_adv140 {sv : Nat → Int32} {L n : Nat} {lf : dlf} {g : cg} {o : cg × Option cv} (h : zr sv L (n + 1) 37 140 lf [] g o) (h0 : lf 0 = (4, 88)) : (g 88 2 ≤ g 88 3 ∧ (∃ lf'2, lf'2 0 = (4, 88) ∧ zr sv L n 37 241 lf'2 [] g o)) ∨ (g 88 3 < g 88 2 ∧ (0 ≤ g 88 3 → g 88 3 < 900 → ((g 2 ((g 88 3).toNat) < 97 ∧ (∃ lf'6, lf'6 0 = (4, 88) ∧ zr sv L n 37 241 lf'6 [] g o)) ∨ (97 ≤ g 2 ((g 88 3).toNat) ∧ ((122 < g 2 ((g 88 3).toNat) ∧ (∃ lf'8, lf'8 0 = (4, 88) ∧ zr sv L n 37 241 lf'8 [] g o)) ∨ (g 2 ((g 88 3).toNat) ≤ 122 ∧ ((8 ≤ w32 ((g 88 3) - (g 88 5)) ∧ (∃ lf'10, lf'10 0 = (4, 88) ∧ zr sv L n 37 140 lf'10 [] (cup (cup g 88 6 (g 88 6)) 88 3 (w32 ((g 88 3) + 1))) o)) ∨ (w32 ((g 88 3) - (g 88 5)) < 8 ∧ (∃ lf'11, lf'11 0 = (4, 88) ∧ zr sv L n 37 140 lf'11 [] (cup (cup g 88 6 (w64 ((w64 ((g 88 6) * 32)) + (w32 ((w32 ((g 2 ((g 88 3).toNat)) - 97)) + 1))))) 88 3 (w32 ((g 88 3) + 1))) o))))))))) := by
  rw [zov h0] at h
  have h := zm1 zy_37 h 4 (q := (cond (crel .ge (g 88 3) (g 88 2)) 241 151, dset lf 0 (4, 88), [], g)) rfl
  dsimp only at h
  rcases zif_ge h with ⟨hc1, h⟩ | ⟨hc1, h⟩
  · refine Or.inl ⟨hc1, ?_⟩
    exact ⟨_, rfl, h⟩
  · refine Or.inr ⟨hc1, ?_⟩
    intro ha3 hb4
    have h := zm zy_37 h 4 (q := (159, dset lf 0 (4, 88), [(0, g 88 3), (4, 2)], g)) rfl
    dsimp only at h
    have h := zald zy_37 h rfl rfl (dvb_2 ha3 hb4)
    have h : zr sv L n 37 160 (dset lf 0 (4, 88)) [(0, g 2 ((g 88 3).toNat))] (g) o := h
    have h := zm zy_37 h 2 (q := (cond (crel .lt (g 2 ((g 88 3).toNat)) 97) 241 165, dset lf 0 (4, 88), [], g)) rfl
    dsimp only at h
    rcases zif_lt h with ⟨hc5, h⟩ | ⟨hc5, h⟩
    · refine Or.inl ⟨hc5, ?_⟩
      exact ⟨_, rfl, h⟩
    · refine Or.inr ⟨hc5, ?_⟩
      have h := zm zy_37 h 4 (q := (173, dset lf 0 (4, 88), [(0, g 88 3), (4, 2)], g)) rfl
      dsimp only at h
      have h := zald zy_37 h rfl rfl (dvb_2 ha3 hb4)
      have h : zr sv L n 37 174 (dset lf 0 (4, 88)) [(0, g 2 ((g 88 3).toNat))] (g) o := h
      have h := zm zy_37 h 2 (q := (cond (crel .gt (g 2 ((g 88 3).toNat)) 122) 241 179, dset lf 0 (4, 88), [], g)) rfl
      dsimp only at h
      rcases zif_gt h with ⟨hc7, h⟩ | ⟨hc7, h⟩
      · refine Or.inl ⟨hc7, ?_⟩
        exact ⟨_, rfl, h⟩
      · refine Or.inr ⟨hc7, ?_⟩
        have h := zm zy_37 h 8 (q := (cond (crel .ge (w32 ((g 88 3) - (g 88 5))) 8) 221 194, dset lf 0 (4, 88), [(4, 88)], g)) rfl
        dsimp only at h
        rcases zif_ge h with ⟨hc9, h⟩ | ⟨hc9, h⟩
        · refine Or.inl ⟨hc9, ?_⟩
          have h := zm zy_37 h 10 (q := (140, dset lf 0 (4, 88), [], cup (cup g 88 6 (g 88 6)) 88 3 (w32 ((g 88 3) + 1)))) rfl
          dsimp only at h
          exact ⟨_, rfl, h⟩
        · refine Or.inr ⟨hc9, ?_⟩
          have h := zm zy_37 h 8 (q := (210, dset lf 0 (4, 88), [(0, g 88 3), (4, 2), (2, w64 ((g 88 6) * 32)), (4, 88)], g)) rfl
          dsimp only at h
          have h := zald zy_37 h rfl rfl (dvb_2 ha3 hb4)
          have h : zr sv L n 37 211 (dset lf 0 (4, 88)) [(0, g 2 ((g 88 3).toNat)), (2, w64 ((g 88 6) * 32)), (4, 88)] (g) o := h
          have h := zm zy_37 h 15 (q := (140, dset lf 0 (4, 88), [], cup (cup g 88 6 (w64 ((w64 ((g 88 6) * 32)) + (w32 ((w32 ((g 2 ((g 88 3).toNat)) - 97)) + 1))))) 88 3 (w32 ((g 88 3) + 1)))) rfl
          dsimp only at h
          exact ⟨_, rfl, h⟩
theorem t_adv241 {sv : Nat → Int32} {L n : Nat} {lf : dlf} {g : cg} {o : cg × Option cv} (h : zr sv L n 37 241 lf [] g o) (h0 : lf 0 = (4, 88)) : (w32 ((g 88 3) - (g 88 5)) ≤ 8 ∧ (∃ lf'2, lf'2 0 = (4, 88) ∧ lf'2 1 = (0, 0) ∧ zr sv L n 37 266 lf'2 [] (cup g 88 4 2) o)) ∨ (8 < w32 ((g 88 3) - (g 88 5)) ∧ (∃ lf'3, lf'3 0 = (4, 88) ∧ lf'3 1 = (0, 0) ∧ zr sv L n 37 266 lf'3 [] (cup g 88 4 3) o)) := by
  rw [zov h0] at h
  have h := zm zy_37 h 8 (q := (cond (crel .le (w32 ((g 88 3) - (g 88 5))) 8) 260 256, dset lf 0 (4, 88), [(4, 88)], g)) rfl
  dsimp only at h
  rcases zif_le h with ⟨hc1, h⟩ | ⟨hc1, h⟩
  · refine Or.inl ⟨hc1, ?_⟩
    have h := zm zy_37 h 4 (q := (266, dset (dset lf 0 (4, 88)) 1 (0, 0), [], cup g 88 4 2)) rfl
    dsimp only at h
    exact ⟨_, rfl, rfl, h⟩
  · refine Or.inr ⟨hc1, ?_⟩
    have h := zm zy_37 h 5 (q := (266, dset (dset lf 0 (4, 88)) 1 (0, 0), [], cup g 88 4 3)) rfl
    dsimp only at h
    exact ⟨_, rfl, rfl, h⟩
theorem t_adv266 {sv : Nat → Int32} {L n : Nat} {lf : dlf} {g : cg} {o : cg × Option cv} {a : Int} (h : zr sv L (n + 1) 37 266 lf [] g o) (h0 : lf 0 = (4, 88)) (h1 : lf 1 = (0, a)) : (25 ≤ a ∧ (o = (g, none))) ∨ (a < 25 ∧ ((g 88 4 ≠ 2 ∧ (o = (g, none))) ∨ (g 88 4 = 2 ∧ (0 ≤ a → a < 25 → ((csgn ((g 89 ((a).toNat)) - (g 88 6)) ≠ 0 ∧ (∃ lf'6, lf'6 0 = (4, 88) ∧ lf'6 1 = (0, w32 (a + 1)) ∧ zr sv L n 37 266 lf'6 [] g o)) ∨ (csgn ((g 89 ((a).toNat)) - (g 88 6)) = 0 ∧ (∃ lf'7, lf'7 0 = (4, 88) ∧ lf'7 1 = (0, w32 (a + 1)) ∧ zr sv L n 37 266 lf'7 [] (cup (cup g 88 4 1) 88 7 a) o))))))) := by
  rw [zov h0, zov h1] at h
  have h := zm1 zy_37 h 2 (q := (cond (crel .ge a 25) 310 272, dset (dset lf 1 (0, a)) 0 (4, 88), [], g)) rfl
  dsimp only at h
  rcases zif_ge h with ⟨hc1, h⟩ | ⟨hc1, h⟩
  · refine Or.inl ⟨hc1, ?_⟩
    have h := zm zy_37 h 1 (q := (513, dset (dset lf 1 (0, a)) 0 (4, 88), [], g)) rfl
    dsimp only at h
    exact zret zy_37 h rfl rfl
  · refine Or.inr ⟨hc1, ?_⟩
    have h := zm zy_37 h 4 (q := (cond (crel .ne (g 88 4) 2) 310 280, dset (dset lf 1 (0, a)) 0 (4, 88), [], g)) rfl
    dsimp only at h
    rcases zif_ne h with ⟨hc2, h⟩ | ⟨hc2, h⟩
    · refine Or.inl ⟨hc2, ?_⟩
      have h := zm zy_37 h 1 (q := (513, dset (dset lf 1 (0, a)) 0 (4, 88), [], g)) rfl
      dsimp only at h
      exact zret zy_37 h rfl rfl
    · refine Or.inr ⟨hc2, ?_⟩
      intro ha3 hb4
      have h := zm zy_37 h 3 (q := (285, dset (dset lf 1 (0, a)) 0 (4, 88), [(0, a), (4, 89)], g)) rfl
      dsimp only at h
      have h := zald zy_37 h rfl rfl (dvb_89 ha3 hb4)
      have h : zr sv L n 37 286 (dset (dset lf 1 (0, a)) 0 (4, 88)) [(2, g 89 ((a).toNat))] (g) o := h
      have h := zm zy_37 h 4 (q := (cond (crel .ne (csgn ((g 89 ((a).toNat)) - (g 88 6))) 0) 304 294, dset (dset lf 1 (0, a)) 0 (4, 88), [], g)) rfl
      dsimp only at h
      rcases zif_ne h with ⟨hc5, h⟩ | ⟨hc5, h⟩
      · refine Or.inl ⟨hc5, ?_⟩
        have h := zm zy_37 h 2 (q := (266, dset (dset (dset lf 1 (0, a)) 0 (4, 88)) 1 (0, w32 (a + 1)), [], g)) rfl
        dsimp only at h
        exact ⟨_, rfl, rfl, h⟩
      · refine Or.inr ⟨hc5, ?_⟩
        have h := zm zy_37 h 8 (q := (266, dset (dset (dset lf 1 (0, a)) 0 (4, 88)) 1 (0, w32 (a + 1)), [], cup (cup g 88 4 1) 88 7 a)) rfl
        dsimp only at h
        exact ⟨_, rfl, rfl, h⟩
theorem t_adv331 {sv : Nat → Int32} {L n : Nat} {lf : dlf} {g : cg} {o : cg × Option cv} (h : zr sv L (n + 1) 37 331 lf [] g o) (h0 : lf 0 = (4, 88)) : (g 88 2 ≤ g 88 3 ∧ (∃ lf'2, lf'2 0 = (4, 88) ∧ zr sv L n 37 427 lf'2 [] g o)) ∨ (g 88 3 < g 88 2 ∧ (0 ≤ g 88 3 → g 88 3 < 900 → ((g 2 ((g 88 3).toNat) < 48 ∧ (∃ lf'6, lf'6 0 = (4, 88) ∧ zr sv L n 37 427 lf'6 [] g o)) ∨ (48 ≤ g 2 ((g 88 3).toNat) ∧ ((57 < g 2 ((g 88 3).toNat) ∧ (∃ lf'8, lf'8 0 = (4, 88) ∧ zr sv L n 37 427 lf'8 [] g o)) ∨ (g 2 ((g 88 3).toNat) ≤ 57 ∧ ((4 ≤ w32 ((g 88 3) - (g 88 5)) ∧ (∃ lf'10, lf'10 0 = (4, 88) ∧ zr sv L n 37 331 lf'10 [] (cup (cup g 88 8 (g 88 8)) 88 3 (w32 ((g 88 3) + 1))) o)) ∨ (w32 ((g 88 3) - (g 88 5)) < 4 ∧ (∃ lf'11, lf'11 0 = (4, 88) ∧ zr sv L n 37 331 lf'11 [] (cup (cup g 88 8 (w32 ((w32 ((g 88 8) * 10)) + (w32 ((g 2 ((g 88 3).toNat)) - 48))))) 88 3 (w32 ((g 88 3) + 1))) o))))))))) := by
  rw [zov h0] at h
  have h := zm1 zy_37 h 4 (q := (cond (crel .ge (g 88 3) (g 88 2)) 427 342, dset lf 0 (4, 88), [], g)) rfl
  dsimp only at h
  rcases zif_ge h with ⟨hc1, h⟩ | ⟨hc1, h⟩
  · refine Or.inl ⟨hc1, ?_⟩
    exact ⟨_, rfl, h⟩
  · refine Or.inr ⟨hc1, ?_⟩
    intro ha3 hb4
    have h := zm zy_37 h 4 (q := (350, dset lf 0 (4, 88), [(0, g 88 3), (4, 2)], g)) rfl
    dsimp only at h
    have h := zald zy_37 h rfl rfl (dvb_2 ha3 hb4)
    have h : zr sv L n 37 351 (dset lf 0 (4, 88)) [(0, g 2 ((g 88 3).toNat))] (g) o := h
    have h := zm zy_37 h 2 (q := (cond (crel .lt (g 2 ((g 88 3).toNat)) 48) 427 356, dset lf 0 (4, 88), [], g)) rfl
    dsimp only at h
    rcases zif_lt h with ⟨hc5, h⟩ | ⟨hc5, h⟩
    · refine Or.inl ⟨hc5, ?_⟩
      exact ⟨_, rfl, h⟩
    · refine Or.inr ⟨hc5, ?_⟩
      have h := zm zy_37 h 4 (q := (364, dset lf 0 (4, 88), [(0, g 88 3), (4, 2)], g)) rfl
      dsimp only at h
      have h := zald zy_37 h rfl rfl (dvb_2 ha3 hb4)
      have h : zr sv L n 37 365 (dset lf 0 (4, 88)) [(0, g 2 ((g 88 3).toNat))] (g) o := h
      have h := zm zy_37 h 2 (q := (cond (crel .gt (g 2 ((g 88 3).toNat)) 57) 427 370, dset lf 0 (4, 88), [], g)) rfl
      dsimp only at h
      rcases zif_gt h with ⟨hc7, h⟩ | ⟨hc7, h⟩
      · refine Or.inl ⟨hc7, ?_⟩
        exact ⟨_, rfl, h⟩
      · refine Or.inr ⟨hc7, ?_⟩
        have h := zm zy_37 h 8 (q := (cond (crel .ge (w32 ((g 88 3) - (g 88 5))) 4) 407 384, dset lf 0 (4, 88), [(4, 88)], g)) rfl
        dsimp only at h
        rcases zif_ge h with ⟨hc9, h⟩ | ⟨hc9, h⟩
        · refine Or.inl ⟨hc9, ?_⟩
          have h := zm zy_37 h 10 (q := (331, dset lf 0 (4, 88), [], cup (cup g 88 8 (g 88 8)) 88 3 (w32 ((g 88 3) + 1)))) rfl
          dsimp only at h
          exact ⟨_, rfl, h⟩
        · refine Or.inr ⟨hc9, ?_⟩
          have h := zm zy_37 h 8 (q := (399, dset lf 0 (4, 88), [(0, g 88 3), (4, 2), (0, w32 ((g 88 8) * 10)), (4, 88)], g)) rfl
          dsimp only at h
          have h := zald zy_37 h rfl rfl (dvb_2 ha3 hb4)
          have h : zr sv L n 37 400 (dset lf 0 (4, 88)) [(0, g 2 ((g 88 3).toNat)), (0, w32 ((g 88 8) * 10)), (4, 88)] (g) o := h
          have h := zm zy_37 h 12 (q := (331, dset lf 0 (4, 88), [], cup (cup g 88 8 (w32 ((w32 ((g 88 8) * 10)) + (w32 ((g 2 ((g 88 3).toNat)) - 48))))) 88 3 (w32 ((g 88 3) + 1)))) rfl
          dsimp only at h
          exact ⟨_, rfl, h⟩
theorem t_adv427 {sv : Nat → Int32} {L n : Nat} {lf : dlf} {g : cg} {o : cg × Option cv} (h : zr sv L n 37 427 lf [] g o) (h0 : lf 0 = (4, 88)) : (w32 ((g 88 3) - (g 88 5)) ≤ 4 ∧ (o = (cup g 88 4 4, none))) ∨ (4 < w32 ((g 88 3) - (g 88 5)) ∧ (o = (cup g 88 4 6, none))) := by
  rw [zov h0] at h
  have h := zm zy_37 h 8 (q := (cond (crel .le (w32 ((g 88 3) - (g 88 5))) 4) 446 441, dset lf 0 (4, 88), [(4, 88)], g)) rfl
  dsimp only at h
  rcases zif_le h with ⟨hc1, h⟩ | ⟨hc1, h⟩
  · refine Or.inl ⟨hc1, ?_⟩
    have h := zm zy_37 h 3 (q := (513, dset lf 0 (4, 88), [], cup g 88 4 4)) rfl
    dsimp only at h
    exact zret zy_37 h rfl rfl
  · refine Or.inr ⟨hc1, ?_⟩
    have h := zm zy_37 h 4 (q := (513, dset lf 0 (4, 88), [], cup g 88 4 6)) rfl
    dsimp only at h
    exact zret zy_37 h rfl rfl
theorem t_adv453 {sv : Nat → Int32} {L n : Nat} {lf : dlf} {g : cg} {o : cg × Option cv} (h : zr sv L n 37 453 lf [] g o) (h0 : lf 0 = (4, 88)) : (g 88 9 = 59 ∧ (o = (cup (cup g 88 4 5) 88 3 (w32 ((g 88 3) + 1)), none))) ∨ (g 88 9 ≠ 59 ∧ ((g 88 9 = 60 ∧ (o = (cup (cup g 88 4 5) 88 3 (w32 ((g 88 3) + 1)), none))) ∨ (g 88 9 ≠ 60 ∧ ((g 88 9 = 62 ∧ (o = (cup (cup g 88 4 5) 88 3 (w32 ((g 88 3) + 1)), none))) ∨ (g 88 9 ≠ 62 ∧ ((g 88 9 ≠ 61 ∧ (o = (cup g 88 4 6, none))) ∨ (g 88 9 = 61 ∧ (o = (cup (cup g 88 4 5) 88 3 (w32 ((g 88 3) + 1)), none))))))))) := by
  rw [zov h0] at h
  have h := zm zy_37 h 4 (q := (cond (crel .eq (g 88 9) 59) 489 462, dset lf 0 (4, 88), [], g)) rfl
  dsimp only at h
  rcases zif_eq h with ⟨hc1, h⟩ | ⟨hc1, h⟩
  · refine Or.inl ⟨hc1, ?_⟩
    have h := zm zy_37 h 10 (q := (513, dset lf 0 (4, 88), [], cup (cup g 88 4 5) 88 3 (w32 ((g 88 3) + 1)))) rfl
    dsimp only at h
    exact zret zy_37 h rfl rfl
  · refine Or.inr ⟨hc1, ?_⟩
    have h := zm zy_37 h 4 (q := (cond (crel .eq (g 88 9) 60) 489 471, dset lf 0 (4, 88), [], g)) rfl
    dsimp only at h
    rcases zif_eq h with ⟨hc2, h⟩ | ⟨hc2, h⟩
    · refine Or.inl ⟨hc2, ?_⟩
      have h := zm zy_37 h 10 (q := (513, dset lf 0 (4, 88), [], cup (cup g 88 4 5) 88 3 (w32 ((g 88 3) + 1)))) rfl
      dsimp only at h
      exact zret zy_37 h rfl rfl
    · refine Or.inr ⟨hc2, ?_⟩
      have h := zm zy_37 h 4 (q := (cond (crel .eq (g 88 9) 62) 489 480, dset lf 0 (4, 88), [], g)) rfl
      dsimp only at h
      rcases zif_eq h with ⟨hc3, h⟩ | ⟨hc3, h⟩
      · refine Or.inl ⟨hc3, ?_⟩
        have h := zm zy_37 h 10 (q := (513, dset lf 0 (4, 88), [], cup (cup g 88 4 5) 88 3 (w32 ((g 88 3) + 1)))) rfl
        dsimp only at h
        exact zret zy_37 h rfl rfl
      · refine Or.inr ⟨hc3, ?_⟩
        have h := zm zy_37 h 4 (q := (cond (crel .ne (g 88 9) 61) 507 489, dset lf 0 (4, 88), [], g)) rfl
        dsimp only at h
        rcases zif_ne h with ⟨hc4, h⟩ | ⟨hc4, h⟩
        · refine Or.inl ⟨hc4, ?_⟩
          have h := zm zy_37 h 3 (q := (513, dset lf 0 (4, 88), [], cup g 88 4 6)) rfl
          dsimp only at h
          exact zret zy_37 h rfl rfl
        · refine Or.inr ⟨hc4, ?_⟩
          have h := zm zy_37 h 10 (q := (513, dset lf 0 (4, 88), [], cup (cup g 88 4 5) 88 3 (w32 ((g 88 3) + 1)))) rfl
          dsimp only at h
          exact zret zy_37 h rfl rfl
theorem t_ahd0 {sv : Nat → Int32} {L n : Nat} {lf : dlf} {g : cg} {o : cg × Option cv} (h : zr sv L (n + 1) 166 0 lf [] g o) (h0 : lf 0 = (4, 253)) : ∃ g1 r2, zr sv L n 167 0 (darg 0 [(4, 253), (0, g 253 14)]) [] g (g1, some (0, r2)) ∧ ((r2 = 32 ∧ (∃ lf'4, lf'4 0 = (4, 253) ∧ zr sv L n 166 0 lf'4 [] (cup g1 253 14 (w32 ((g1 253 14) + 1))) o)) ∨ (r2 ≠ 32 ∧ (∃ g5 r6, zr sv L n 167 0 (darg 0 [(4, 253), (0, g1 253 14)]) [] g1 (g5, some (0, r6)) ∧ ((r6 ≠ 10 ∧ (∃ lf'8, lf'8 0 = (4, 253) ∧ zr sv L n 166 39 lf'8 [] g5 o)) ∨ (r6 = 10 ∧ (∃ lf'9, lf'9 0 = (4, 253) ∧ zr sv L n 166 0 lf'9 [] (cup g5 253 14 (w32 ((g5 253 14) + 1))) o)))))) := by
  rw [zov h0] at h
  have h := zm1 zy_166 h 2 (q := (5, dset lf 0 (4, 253), [(0, g 253 14), (4, 253)], g)) rfl
  dsimp only at h
  obtain ⟨g1, r2, hk, h⟩ := zcallI zy_166 h rfl rfl zy_167 zk_167
  dsimp only at hk h
  refine ⟨g1, r2, hk, ?_⟩
  have h := zm zy_166 h 2 (q := (cond (crel .eq r2 32) 26 13, dset lf 0 (4, 253), [], g1)) rfl
  dsimp only at h
  rcases zif_eq h with ⟨hc3, h⟩ | ⟨hc3, h⟩
  · refine Or.inl ⟨hc3, ?_⟩
    have h := zm zy_166 h 7 (q := (0, dset lf 0 (4, 253), [], cup g1 253 14 (w32 ((g1 253 14) + 1)))) rfl
    dsimp only at h
    exact ⟨_, rfl, h⟩
  · refine Or.inr ⟨hc3, ?_⟩
    have h := zm zy_166 h 3 (q := (18, dset lf 0 (4, 253), [(0, g1 253 14), (4, 253)], g1)) rfl
    dsimp only at h
    obtain ⟨g5, r6, hk, h⟩ := zcallI zy_166 h rfl rfl zy_167 zk_167
    dsimp only at hk h
    refine ⟨g5, r6, hk, ?_⟩
    have h := zm zy_166 h 2 (q := (cond (crel .ne r6 10) 39 26, dset lf 0 (4, 253), [], g5)) rfl
    dsimp only at h
    rcases zif_ne h with ⟨hc7, h⟩ | ⟨hc7, h⟩
    · refine Or.inl ⟨hc7, ?_⟩
      exact ⟨_, rfl, h⟩
    · refine Or.inr ⟨hc7, ?_⟩
      have h := zm zy_166 h 7 (q := (0, dset lf 0 (4, 253), [], cup g5 253 14 (w32 ((g5 253 14) + 1)))) rfl
      dsimp only at h
      exact ⟨_, rfl, h⟩
theorem t_ahd39 {sv : Nat → Int32} {L n : Nat} {lf : dlf} {g : cg} {o : cg × Option cv} (h : zr sv L n 166 39 lf [] g o) (h0 : lf 0 = (4, 253)) : ∃ g1 r2, zr sv L n 167 0 (darg 0 [(4, 253), (0, g 253 14)]) [] (cup g 253 13 (g 253 14)) (g1, some (0, r2)) ∧ ((r2 ≠ (-1) ∧ (∃ g4 r5, zr sv L n 168 0 (darg 0 [(0, r2)]) [] (cup g1 253 15 r2) (g4, some (0, r5)) ∧ ((r5 = 0 ∧ (∃ g7 r8, zr sv L n 169 0 (darg 0 [(0, r2)]) [] g4 (g7, some (0, r8)) ∧ ((r8 = 0 ∧ ((r2 = 59 ∧ (o = (cup (cup g7 253 14 (w32 ((g7 253 14) + 1))) 253 12 4, none))) ∨ (r2 ≠ 59 ∧ ((r2 = 60 ∧ (o = (cup (cup g7 253 14 (w32 ((g7 253 14) + 1))) 253 12 4, none))) ∨ (r2 ≠ 60 ∧ ((r2 = 62 ∧ (o = (cup (cup g7 253 14 (w32 ((g7 253 14) + 1))) 253 12 4, none))) ∨ (r2 ≠ 62 ∧ ((r2 ≠ 61 ∧ (o = (cup (cup g7 253 14 (w32 ((g7 253 14) + 1))) 253 12 1, none))) ∨ (r2 = 61 ∧ (o = (cup (cup g7 253 14 (w32 ((g7 253 14) + 1))) 253 12 4, none))))))))))) ∨ (r8 ≠ 0 ∧ (∃ lf'14, lf'14 0 = (4, 253) ∧ zr sv L n 166 128 lf'14 [] (cup g7 253 15 0) o))))) ∨ (r5 ≠ 0 ∧ (∃ lf'15, lf'15 0 = (4, 253) ∧ zr sv L n 166 81 lf'15 [] g4 o))))) ∨ (r2 = (-1) ∧ (o = (cup (cup g1 253 15 r2) 253 12 0, none)))) := by
  rw [zov h0] at h
  have h := zm zy_166 h 7 (q := (52, dset lf 0 (4, 253), [(0, g 253 14), (4, 253)], cup g 253 13 (g 253 14))) rfl
  dsimp only at h
  obtain ⟨g1, r2, hk, h⟩ := zcallI zy_166 h rfl rfl zy_167 zk_167
  dsimp only at hk h
  refine ⟨g1, r2, hk, ?_⟩
  have h := zm zy_166 h 7 (q := (cond (crel .ne r2 ((-1))) 74 66, dset (dset lf 0 (4, 253)) 1 (0, r2), [], cup g1 253 15 r2)) rfl
  dsimp only at h
  rcases zif_ne h with ⟨hc3, h⟩ | ⟨hc3, h⟩
  · refine Or.inl ⟨hc3, ?_⟩
    have h := zm zy_166 h 1 (q := (75, dset (dset lf 0 (4, 253)) 1 (0, r2), [(0, r2)], cup g1 253 15 r2)) rfl
    dsimp only at h
    obtain ⟨g4, r5, hk, h⟩ := zcallI zy_166 h rfl rfl zy_168 zk_168
    dsimp only at hk h
    refine ⟨g4, r5, hk, ?_⟩
    have h := zm zy_166 h 1 (q := (cond (crel .eq r5 0) 116 81, dset (dset lf 0 (4, 253)) 1 (0, r2), [], g4)) rfl
    dsimp only at h
    rcases zif_eq h with ⟨hc6, h⟩ | ⟨hc6, h⟩
    · refine Or.inl ⟨hc6, ?_⟩
      have h := zm zy_166 h 1 (q := (117, dset (dset lf 0 (4, 253)) 1 (0, r2), [(0, r2)], g4)) rfl
      dsimp only at h
      obtain ⟨g7, r8, hk, h⟩ := zcallI zy_166 h rfl rfl zy_169 zk_169
      dsimp only at hk h
      refine ⟨g7, r8, hk, ?_⟩
      have h := zm zy_166 h 1 (q := (cond (crel .eq r8 0) 208 123, dset (dset lf 0 (4, 253)) 1 (0, r2), [], g7)) rfl
      dsimp only at h
      rcases zif_eq h with ⟨hc9, h⟩ | ⟨hc9, h⟩
      · refine Or.inl ⟨hc9, ?_⟩
        have h := zm zy_166 h 10 (q := (cond (crel .eq r2 59) 243 225, dset (dset lf 0 (4, 253)) 1 (0, r2), [(4, 253)], cup g7 253 14 (w32 ((g7 253 14) + 1)))) rfl
        dsimp only at h
        rcases zif_eq h with ⟨hc10, h⟩ | ⟨hc10, h⟩
        · refine Or.inl ⟨hc10, ?_⟩
          have h := zm zy_166 h 3 (q := (251, dset (dset lf 0 (4, 253)) 1 (0, r2), [], cup (cup g7 253 14 (w32 ((g7 253 14) + 1))) 253 12 4)) rfl
          dsimp only at h
          exact zret zy_166 h rfl rfl
        · refine Or.inr ⟨hc10, ?_⟩
          have h := zm zy_166 h 3 (q := (cond (crel .eq r2 60) 243 231, dset (dset lf 0 (4, 253)) 1 (0, r2), [(4, 253)], cup g7 253 14 (w32 ((g7 253 14) + 1)))) rfl
          dsimp only at h
          rcases zif_eq h with ⟨hc11, h⟩ | ⟨hc11, h⟩
          · refine Or.inl ⟨hc11, ?_⟩
            have h := zm zy_166 h 3 (q := (251, dset (dset lf 0 (4, 253)) 1 (0, r2), [], cup (cup g7 253 14 (w32 ((g7 253 14) + 1))) 253 12 4)) rfl
            dsimp only at h
            exact zret zy_166 h rfl rfl
          · refine Or.inr ⟨hc11, ?_⟩
            have h := zm zy_166 h 3 (q := (cond (crel .eq r2 62) 243 237, dset (dset lf 0 (4, 253)) 1 (0, r2), [(4, 253)], cup g7 253 14 (w32 ((g7 253 14) + 1)))) rfl
            dsimp only at h
            rcases zif_eq h with ⟨hc12, h⟩ | ⟨hc12, h⟩
            · refine Or.inl ⟨hc12, ?_⟩
              have h := zm zy_166 h 3 (q := (251, dset (dset lf 0 (4, 253)) 1 (0, r2), [], cup (cup g7 253 14 (w32 ((g7 253 14) + 1))) 253 12 4)) rfl
              dsimp only at h
              exact zret zy_166 h rfl rfl
            · refine Or.inr ⟨hc12, ?_⟩
              have h := zm zy_166 h 3 (q := (cond (crel .ne r2 61) 247 243, dset (dset lf 0 (4, 253)) 1 (0, r2), [(4, 253)], cup g7 253 14 (w32 ((g7 253 14) + 1)))) rfl
              dsimp only at h
              rcases zif_ne h with ⟨hc13, h⟩ | ⟨hc13, h⟩
              · refine Or.inl ⟨hc13, ?_⟩
                have h := zm zy_166 h 2 (q := (251, dset (dset lf 0 (4, 253)) 1 (0, r2), [], cup (cup g7 253 14 (w32 ((g7 253 14) + 1))) 253 12 1)) rfl
                dsimp only at h
                exact zret zy_166 h rfl rfl
              · refine Or.inr ⟨hc13, ?_⟩
                have h := zm zy_166 h 3 (q := (251, dset (dset lf 0 (4, 253)) 1 (0, r2), [], cup (cup g7 253 14 (w32 ((g7 253 14) + 1))) 253 12 4)) rfl
                dsimp only at h
                exact zret zy_166 h rfl rfl
      · refine Or.inr ⟨hc9, ?_⟩
        have h := zm zy_166 h 3 (q := (128, dset (dset lf 0 (4, 253)) 1 (0, r2), [], cup g7 253 15 0)) rfl
        dsimp only at h
        exact ⟨_, rfl, h⟩
    · refine Or.inr ⟨hc6, ?_⟩
      exact ⟨_, rfl, h⟩
  · refine Or.inr ⟨hc3, ?_⟩
    have h := zm zy_166 h 4 (q := (251, dset (dset lf 0 (4, 253)) 1 (0, r2), [], cup (cup g1 253 15 r2) 253 12 0)) rfl
    dsimp only at h
    exact zret zy_166 h rfl rfl
theorem t_ahd81 {sv : Nat → Int32} {L n : Nat} {lf : dlf} {g : cg} {o : cg × Option cv} (h : zr sv L (n + 1) 166 81 lf [] g o) (h0 : lf 0 = (4, 253)) : ∃ g1 r2, zr sv L n 167 0 (darg 0 [(4, 253), (0, g 253 14)]) [] g (g1, some (0, r2)) ∧ (∃ g3 r4, zr sv L n 168 0 (darg 0 [(0, r2)]) [] g1 (g3, some (0, r4)) ∧ ((r4 = 0 ∧ (∃ lf'6, lf'6 0 = (4, 253) ∧ zr sv L n 166 108 lf'6 [] g3 o)) ∨ (r4 ≠ 0 ∧ (∃ lf'7, lf'7 0 = (4, 253) ∧ zr sv L n 166 81 lf'7 [] (cup g3 253 14 (w32 ((g3 253 14) + 1))) o)))) := by
  rw [zov h0] at h
  have h := zm1 zy_166 h 2 (q := (86, dset lf 0 (4, 253), [(0, g 253 14), (4, 253)], g)) rfl
  dsimp only at h
  obtain ⟨g1, r2, hk, h⟩ := zcallI zy_166 h rfl rfl zy_167 zk_167
  dsimp only at hk h
  refine ⟨g1, r2, hk, ?_⟩
  obtain ⟨g3, r4, hk, h⟩ := zcallI zy_166 h rfl rfl zy_168 zk_168
  dsimp only at hk h
  refine ⟨g3, r4, hk, ?_⟩
  have h := zm zy_166 h 1 (q := (cond (crel .eq r4 0) 108 95, dset lf 0 (4, 253), [], g3)) rfl
  dsimp only at h
  rcases zif_eq h with ⟨hc5, h⟩ | ⟨hc5, h⟩
  · refine Or.inl ⟨hc5, ?_⟩
    exact ⟨_, rfl, h⟩
  · refine Or.inr ⟨hc5, ?_⟩
    have h := zm zy_166 h 7 (q := (81, dset lf 0 (4, 253), [], cup g3 253 14 (w32 ((g3 253 14) + 1)))) rfl
    dsimp only at h
    exact ⟨_, rfl, h⟩
theorem t_ahd108 {sv : Nat → Int32} {L n : Nat} {lf : dlf} {g : cg} {o : cg × Option cv} (h : zr sv L n 166 108 lf [] g o) (h0 : lf 0 = (4, 253)) : o = (cup g 253 12 2, none) := by
  rw [zov h0] at h
  have h := zm zy_166 h 4 (q := (251, dset lf 0 (4, 253), [], cup g 253 12 2)) rfl
  dsimp only at h
  exact zret zy_166 h rfl rfl
theorem t_ahd128 {sv : Nat → Int32} {L n : Nat} {lf : dlf} {g : cg} {o : cg × Option cv} (h : zr sv L (n + 1) 166 128 lf [] g o) (h0 : lf 0 = (4, 253)) : ∃ g1 r2, zr sv L n 167 0 (darg 0 [(4, 253), (0, g 253 14)]) [] g (g1, some (0, r2)) ∧ (∃ g3 r4, zr sv L n 169 0 (darg 0 [(0, r2)]) [] g1 (g3, some (0, r4)) ∧ ((r4 = 0 ∧ (∃ lf'6, lf'6 0 = (4, 253) ∧ zr sv L n 166 183 lf'6 [] g3 o)) ∨ (r4 ≠ 0 ∧ (∃ g7 r8, zr sv L n 167 0 (darg 0 [(4, 253), (0, g3 253 14)]) [] g3 (g7, some (0, r8)) ∧ (∃ g9 r10, zr sv L n 36 0 (darg 0 [(0, 100000), (0, w32 ((w32 ((w32 (10 * (g3 253 15))) + r8)) - 48))]) [] g7 (g9, some (0, r10)) ∧ (∃ lf'11, lf'11 0 = (4, 253) ∧ zr sv L n 166 128 lf'11 [] (cup (cup g9 253 15 r10) 253 14 (w32 ((g9 253 14) + 1))) o)))))) := by
  rw [zov h0] at h
  have h := zm1 zy_166 h 2 (q := (133, dset lf 0 (4, 253), [(0, g 253 14), (4, 253)], g)) rfl
  dsimp only at h
  obtain ⟨g1, r2, hk, h⟩ := zcallI zy_166 h rfl rfl zy_167 zk_167
  dsimp only at hk h
  refine ⟨g1, r2, hk, ?_⟩
  obtain ⟨g3, r4, hk, h⟩ := zcallI zy_166 h rfl rfl zy_169 zk_169
  dsimp only at hk h
  refine ⟨g3, r4, hk, ?_⟩
  have h := zm zy_166 h 1 (q := (cond (crel .eq r4 0) 183 142, dset lf 0 (4, 253), [], g3)) rfl
  dsimp only at h
  rcases zif_eq h with ⟨hc5, h⟩ | ⟨hc5, h⟩
  · refine Or.inl ⟨hc5, ?_⟩
    exact ⟨_, rfl, h⟩
  · refine Or.inr ⟨hc5, ?_⟩
    have h := zm zy_166 h 9 (q := (157, dset lf 0 (4, 253), [(0, g3 253 14), (4, 253), (0, w32 (10 * (g3 253 15))), (0, 100000), (4, 253)], g3)) rfl
    dsimp only at h
    obtain ⟨g7, r8, hk, h⟩ := zcallI zy_166 h rfl rfl zy_167 zk_167
    dsimp only at hk h
    refine ⟨g7, r8, hk, ?_⟩
    have h := zm zy_166 h 3 (q := (164, dset lf 0 (4, 253), [(0, w32 ((w32 ((w32 (10 * (g3 253 15))) + r8)) - 48)), (0, 100000), (4, 253)], g7)) rfl
    dsimp only at h
    obtain ⟨g9, r10, hk, h⟩ := zcallI zy_166 h rfl rfl zy_36 zk_36
    dsimp only at hk h
    refine ⟨g9, r10, hk, ?_⟩
    have h := zm zy_166 h 8 (q := (128, dset lf 0 (4, 253), [], cup (cup g9 253 15 r10) 253 14 (w32 ((g9 253 14) + 1)))) rfl
    dsimp only at h
    exact ⟨_, rfl, h⟩
theorem t_ahd183 {sv : Nat → Int32} {L n : Nat} {lf : dlf} {g : cg} {o : cg × Option cv} (h : zr sv L n 166 183 lf [] g o) (h0 : lf 0 = (4, 253)) : (w32 ((g 253 14) - (g 253 13)) ≤ 4 ∧ (o = (cup g 253 12 3, none))) ∨ (4 < w32 ((g 253 14) - (g 253 13)) ∧ (o = (cup g 253 12 1, none))) := by
  rw [zov h0] at h
  have h := zm zy_166 h 8 (q := (cond (crel .le (w32 ((g 253 14) - (g 253 13))) 4) 201 197, dset lf 0 (4, 253), [(4, 253)], g)) rfl
  dsimp only at h
  rcases zif_le h with ⟨hc1, h⟩ | ⟨hc1, h⟩
  · refine Or.inl ⟨hc1, ?_⟩
    have h := zm zy_166 h 3 (q := (251, dset lf 0 (4, 253), [], cup g 253 12 3)) rfl
    dsimp only at h
    exact zret zy_166 h rfl rfl
  · refine Or.inr ⟨hc1, ?_⟩
    have h := zm zy_166 h 4 (q := (251, dset lf 0 (4, 253), [], cup g 253 12 1)) rfl
    dsimp only at h
    exact zret zy_166 h rfl rfl
end
