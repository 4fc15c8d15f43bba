/-! what strings, names and signs say: printed by program (wip/tools/zpar.py) -/
section
set_option maxRecDepth 100000
theorem zy_7 : xg xcode 7 = some xt_7 := rfl
theorem zk_7 : zkc 1 xt_7 = true := by decide +kernel
theorem zy_8 : xg xcode 8 = some xt_8 := rfl
theorem zk_8 : zkc 1 xt_8 = true := by decide +kernel
theorem zy_9 : xg xcode 9 = some xt_9 := rfl
theorem zk_9 : zkc 1 xt_9 = true := by decide +kernel
theorem zy_10 : xg xcode 10 = some xt_10 := rfl
theorem zk_10 : zkc 1 xt_10 = true := by decide +kernel
theorem zy_11 : xg xcode 11 = some xt_11 := rfl
theorem zk_11 : zkc 1 xt_11 = true := by decide +kernel
theorem zy_12 : xg xcode 12 = some xt_12 := rfl
theorem zk_12 : zkc 0 xt_12 = true := by decide +kernel
theorem zy_13 : xg xcode 13 = some xt_13 := rfl
theorem zk_13 : zkc 1 xt_13 = true := by decide +kernel
theorem zy_39 : xg xcode 39 = some xt_39 := rfl
theorem zk_39 : zkc 1 xt_39 = true := by decide +kernel
theorem zy_41 : xg xcode 41 = some xt_41 := rfl
theorem zk_41 : zkc 1 xt_41 = true := by decide +kernel
theorem zy_42 : xg xcode 42 = some xt_42 := rfl
theorem zk_42 : zkc 1 xt_42 = true := by decide +kernel
theorem zy_46 : xg xcode 46 = some xt_46 := rfl
theorem zk_46 : zkc 1 xt_46 = true := by decide +kernel
theorem zy_50 : xg xcode 50 = some xt_50 := rfl
theorem zk_50 : zkc 1 xt_50 = true := by decide +kernel
theorem zy_57 : xg xcode 57 = some xt_57 := rfl
theorem zk_57 : zkc 1 xt_57 = true := by decide +kernel
theorem zy_172 : xg xcode 172 = some xt_172 := rfl
theorem zk_172 : zkc 1 xt_172 = true := by decide +kernel
theorem zy_173 : xg xcode 173 = some xt_173 := rfl
theorem zk_173 : zkc 1 xt_173 = true := by decide +kernel
theorem zy_175 : xg xcode 175 = some xt_175 := rfl
theorem zk_175 : zkc 1 xt_175 = true := by decide +kernel
theorem zy_176 : xg xcode 176 = some xt_176 := rfl
theorem zk_176 : zkc 1 xt_176 = true := by decide +kernel
theorem zy_177 : xg xcode 177 = some xt_177 := rfl
theorem zk_177 : zkc 1 xt_177 = true := by decide +kernel
theorem zy_181 : xg xcode 181 = some xt_181 := rfl
theorem zk_181 : zkc 1 xt_181 = true := by decide +kernel
theorem zy_183 : xg xcode 183 = some xt_183 := rfl
theorem zk_183 : zkc 2 xt_183 = true := by decide +kernel
theorem zy_184 : xg xcode 184 = some xt_184 := rfl
theorem zk_184 : zkc 1 xt_184 = true := by decide +kernel
theorem zy_189 : xg xcode 189 = some xt_189 := rfl
theorem zk_189 : zkc 1 xt_189 = true := by decide +kernel
theorem t_coder {sv : Nat → Int32} {L n : Nat} {lf : dlf} {g : cg} {o : cg × Option cv} (h : zr sv L n 8 0 lf [] g o) (h0 : lf 0 = (6, 3)) : o = (g, some (0, 0)) := by
  rw [zov h0] at h
  have h := zm zy_8 h 5 (q := (14, dset lf 0 (6, 3), [(0, 0)], g)) rfl
  dsimp only at h
  exact zret zy_8 h rfl rfl
theorem t_len {sv : Nat → Int32} {L n : Nat} {lf : dlf} {g : cg} {o : cg × Option cv} (h : zr sv L n 7 0 lf [] g o) (h0 : lf 0 = (6, 3)) : ∃ g1 r2, zr sv L n 8 0 (darg 0 [(6, 3)]) [] g (g1, some (0, r2)) ∧ (o = (g1, some (0, (i32 134 >>> (i32 r2 &&& 31)).toInt))) := by
  rw [zov h0] at h
  have h := zm zy_7 h 4 (q := (6, dset lf 0 (6, 3), [(6, 3), (0, 134)], g)) rfl
  dsimp only at h
  obtain ⟨g1, r2, hk, h⟩ := zcallI zy_7 h rfl rfl zy_8 zk_8
  dsimp only at hk h
  refine ⟨g1, r2, hk, ?_⟩
  have h := zm zy_7 h 1 (q := (10, dset lf 0 (6, 3), [(0, (i32 134 >>> (i32 r2 &&& 31)).toInt)], g1)) rfl
  dsimp only at h
  exact zret zy_7 h rfl rfl
theorem t_lat {sv : Nat → Int32} {L n : Nat} {lf : dlf} {g : cg} {o : cg × Option cv} (h : zr sv L n 10 0 lf [] g o) (h0 : lf 0 = (6, 3)) : o = (g, some (0, 1)) := by
  rw [zov h0] at h
  have h := zm zy_10 h 7 (q := (18, dset lf 0 (6, 3), [(0, 1)], g)) rfl
  dsimp only at h
  exact zret zy_10 h rfl rfl
theorem t_pre {sv : Nat → Int32} {L n : Nat} {lf : dlf} {g : cg} {o : cg × Option cv} {a b : Int} (h : zr sv L n 13 0 lf [] g o) (h0 : lf 0 = (0, a)) (h1 : lf 1 = (0, b)) (h2 : lf 2 = (10, 0)) : (a < 0 ∧ (False)) ∨ (0 ≤ a ∧ ((a < b ∧ (o = (g, some (0, a)))) ∨ (b ≤ a ∧ (False)))) := by
  rw [zov h0, zov h1, zov h2] at h
  have h := zm zy_13 h 2 (q := (cond (crel .lt a 0) 9 4, dset (dset (dset lf 2 (10, 0)) 1 (0, b)) 0 (0, a), [], g)) rfl
  dsimp only at h
  rcases zif_lt h with ⟨hc1, h⟩ | ⟨hc1, h⟩
  · refine Or.inl ⟨hc1, ?_⟩
    have h := zm zy_13 h 3 (q := (12, dset (dset (dset lf 2 (10, 0)) 1 (0, b)) 0 (0, a), [(0, b), (0, a), (10, 0)], g)) rfl
    dsimp only at h
    exact znone zy_13 h rfl
  · refine Or.inr ⟨hc1, ?_⟩
    have h := zm zy_13 h 3 (q := (cond (crel .lt a b) 16 9, dset (dset (dset lf 2 (10, 0)) 1 (0, b)) 0 (0, a), [], g)) rfl
    dsimp only at h
    rcases zif_lt h with ⟨hc2, h⟩ | ⟨hc2, h⟩
    · refine Or.inl ⟨hc2, ?_⟩
      have h := zm zy_13 h 1 (q := (17, dset (dset (dset lf 2 (10, 0)) 1 (0, b)) 0 (0, a), [(0, a)], g)) rfl
      dsimp only at h
      exact zret zy_13 h rfl rfl
    · refine Or.inr ⟨hc2, ?_⟩
      have h := zm zy_13 h 3 (q := (12, dset (dset (dset lf 2 (10, 0)) 1 (0, b)) 0 (0, a), [(0, b), (0, a), (10, 0)], g)) rfl
      dsimp only at h
      exact znone zy_13 h rfl
theorem t_chk {sv : Nat → Int32} {L n : Nat} {lf : dlf} {g : cg} {o : cg × Option cv} {a b : Int} (h : zr sv L n 12 0 lf [] g o) (h0 : lf 0 = (0, a)) (h1 : lf 1 = (0, b)) : ∃ g1 r2, zr sv L n 13 0 (darg 0 [(0, a), (0, b), (10, 0)]) [] g (g1, some (0, r2)) ∧ (o = (g1, none)) := by
  rw [zov h0, zov h1] at h
  have h := zm zy_12 h 3 (q := (5, dset (dset lf 1 (0, b)) 0 (0, a), [(10, 0), (0, b), (0, a)], g)) rfl
  dsimp only at h
  obtain ⟨g1, r2, hk, h⟩ := zcallI zy_12 h rfl rfl zy_13 zk_13
  dsimp only at hk h
  refine ⟨g1, r2, hk, ?_⟩
  have h := zm zy_12 h 1 (q := (9, dset (dset lf 1 (0, b)) 0 (0, a), [], g1)) rfl
  dsimp only at h
  exact zret zy_12 h rfl rfl
theorem t_lchr {sv : Nat → Int32} {L n : Nat} {lf : dlf} {g : cg} {o : cg × Option cv} {a : Int} (h : zr sv L n 11 0 lf [] g o) (h0 : lf 0 = (6, 4)) (h1 : lf 1 = (0, a)) : ∃ g1, zr sv L n 12 0 (darg 0 [(0, a), (0, 134)]) [] g (g1, none) ∧ (o = (g1, some (0, ((i32 ((i32 ((nI ((xeb 4).getD (a).toNat 0)).toInt) &&& i32 255).toInt)).toUInt32 % 65536).toInt32.toInt))) := by
  rw [zov h0, zov h1] at h
  have h := zm zy_11 h 3 (q := (3, dset (dset lf 1 (0, a)) 0 (6, 4), [(0, 134), (0, a)], g)) rfl
  dsimp only at h
  obtain ⟨g1, hk, h⟩ := zcallV zy_11 h rfl rfl zy_12 zk_12
  dsimp only at hk h
  refine ⟨g1, hk, ?_⟩
  have h := zm zy_11 h 6 (q := (14, dset (dset lf 1 (0, a)) 0 (6, 4), [(0, ((i32 ((i32 ((nI ((xeb 4).getD (a).toNat 0)).toInt) &&& i32 255).toInt)).toUInt32 % 65536).toInt32.toInt)], g1)) rfl
  dsimp only at h
  exact zret zy_11 h rfl rfl
theorem t_chr {sv : Nat → Int32} {L n : Nat} {lf : dlf} {g : cg} {o : cg × Option cv} {a : Int} (h : zr sv L n 9 0 lf [] g o) (h0 : lf 0 = (6, 3)) (h1 : lf 1 = (0, a)) : ∃ g1 r2, zr sv L n 10 0 (darg 0 [(6, 3)]) [] g (g1, some (0, r2)) ∧ ((r2 = 0 ∧ (False)) ∨ (r2 ≠ 0 ∧ (∃ g4 r5, zr sv L n 11 0 (darg 0 [(6, 4), (0, a)]) [] g1 (g4, some (0, r5)) ∧ (o = (g4, some (0, r5)))))) := by
  rw [zov h0, zov h1] at h
  have h := zm zy_9 h 1 (q := (1, dset (dset lf 1 (0, a)) 0 (6, 3), [(6, 3)], g)) rfl
  dsimp only at h
  obtain ⟨g1, r2, hk, h⟩ := zcallI zy_9 h rfl rfl zy_10 zk_10
  dsimp only at hk h
  refine ⟨g1, r2, hk, ?_⟩
  have h := zm zy_9 h 1 (q := (cond (crel .eq r2 0) 16 7, dset (dset lf 1 (0, a)) 0 (6, 3), [], g1)) rfl
  dsimp only at h
  rcases zif_eq h with ⟨hc3, h⟩ | ⟨hc3, h⟩
  · refine Or.inl ⟨hc3, ?_⟩
    have h := zm zy_9 h 3 (q := (21, dset (dset lf 1 (0, a)) 0 (6, 3), [(0, a), (6, 4)], g1)) rfl
    dsimp only at h
    exact znone zy_9 h rfl
  · refine Or.inr ⟨hc3, ?_⟩
    have h := zm zy_9 h 3 (q := (12, dset (dset lf 1 (0, a)) 0 (6, 3), [(0, a), (6, 4)], g1)) rfl
    dsimp only at h
    obtain ⟨g4, r5, hk, h⟩ := zcallI zy_9 h rfl rfl zy_11 zk_11
    dsimp only at hk h
    refine ⟨g4, r5, hk, ?_⟩
    exact zret zy_9 h rfl rfl
theorem t_inw0 {sv : Nat → Int32} {L n : Nat} {lf : dlf} {g : cg} {o : cg × Option cv} (h : zr sv L n 172 0 lf [] g o) (h0 : lf 0 = (4, 253)) (h1 : lf 1 = (6, 3)) : (g 253 12 = 2 ∧ (∃ lf'2, lf'2 0 = (4, 253) ∧ lf'2 1 = (6, 3) ∧ lf'2 2 = (0, 0) ∧ lf'2 3 = (0, 1) ∧ zr sv L n 172 14 lf'2 [] g o)) ∨ (g 253 12 ≠ 2 ∧ (o = (g, some (0, (-1))))) := by
  rw [zov h0, zov h1] at h
  have h := zm zy_172 h 4 (q := (cond (crel .eq (g 253 12) 2) 10 8, dset (dset lf 1 (6, 3)) 0 (4, 253), [], g)) rfl
  dsimp only at h
  rcases zif_eq h with ⟨hc1, h⟩ | ⟨hc1, h⟩
  · refine Or.inl ⟨hc1, ?_⟩
    have h := zm zy_172 h 4 (q := (14, dset (dset (dset (dset lf 1 (6, 3)) 0 (4, 253)) 2 (0, 0)) 3 (0, 1), [], g)) rfl
    dsimp only at h
    exact ⟨_, rfl, rfl, rfl, rfl, h⟩
  · refine Or.inr ⟨hc1, ?_⟩
    have h := zm zy_172 h 1 (q := (9, dset (dset lf 1 (6, 3)) 0 (4, 253), [(0, (-1))], g)) rfl
    dsimp only at h
    exact zret zy_172 h rfl rfl
theorem t_inw14 {sv : Nat → Int32} {L n : Nat} {lf : dlf} {g : cg} {o : cg × Option cv} {a b : Int} (h : zr sv L (n + 1) 172 14 lf [] g o) (h0 : lf 0 = (4, 253)) (h1 : lf 1 = (6, 3)) (h2 : lf 2 = (0, a)) (h3 : lf 3 = (0, b)) : ∃ g1 r2, zr sv L n 7 0 (darg 0 [(6, 3)]) [] g (g1, some (0, r2)) ∧ ((r2 ≤ b ∧ (o = (g1, some (0, (-1))))) ∨ (b < r2 ∧ (∃ lf'4, lf'4 0 = (4, 253) ∧ lf'4 1 = (6, 3) ∧ lf'4 2 = (0, a) ∧ lf'4 3 = (0, b) ∧ lf'4 4 = (0, b) ∧ zr sv L n 172 25 lf'4 [] g1 o))) := by
  rw [zov h0, zov h1, zov h2, zov h3] at h
  have h := zm1 zy_172 h 1 (q := (16, dset (dset (dset (dset lf 3 (0, b)) 2 (0, a)) 1 (6, 3)) 0 (4, 253), [(6, 3), (0, b)], g)) rfl
  dsimp only at h
  obtain ⟨g1, r2, hk, h⟩ := zcallI zy_172 h rfl rfl zy_7 zk_7
  dsimp only at hk h
  refine ⟨g1, r2, hk, ?_⟩
  have h := zm zy_172 h 1 (q := (cond (crel .ge b r2) 133 22, dset (dset (dset (dset lf 3 (0, b)) 2 (0, a)) 1 (6, 3)) 0 (4, 253), [], g1)) rfl
  dsimp only at h
  rcases zif_ge h with ⟨hc3, h⟩ | ⟨hc3, h⟩
  · refine Or.inl ⟨hc3, ?_⟩
    have h := zm zy_172 h 1 (q := (134, dset (dset (dset (dset lf 3 (0, b)) 2 (0, a)) 1 (6, 3)) 0 (4, 253), [(0, (-1))], g1)) rfl
    dsimp only at h
    exact zret zy_172 h rfl rfl
  · refine Or.inr ⟨hc3, ?_⟩
    have h := zm zy_172 h 2 (q := (25, dset (dset (dset (dset (dset lf 3 (0, b)) 2 (0, a)) 1 (6, 3)) 0 (4, 253)) 4 (0, b), [], g1)) rfl
    dsimp only at h
    exact ⟨_, rfl, rfl, rfl, rfl, rfl, h⟩
theorem t_inw25 {sv : Nat → Int32} {L n : Nat} {lf : dlf} {g : cg} {o : cg × Option cv} {a b c : Int} (h : zr sv L (n + 1) 172 25 lf [] g o) (h0 : lf 0 = (4, 253)) (h1 : lf 1 = (6, 3)) (h2 : lf 2 = (0, a)) (h3 : lf 3 = (0, b)) (h4 : lf 4 = (0, c)) : ∃ g1 r2, zr sv L n 9 0 (darg 0 [(6, 3), (0, c)]) [] g (g1, some (0, r2)) ∧ ((r2 = 32 ∧ ((w32 (c - b) ≠ w32 ((g1 253 14) - (g1 253 13)) ∧ (∃ lf'5, lf'5 0 = (4, 253) ∧ lf'5 1 = (6, 3) ∧ lf'5 2 = (0, a) ∧ lf'5 3 = (0, b) ∧ lf'5 4 = (0, c) ∧ lf'5 5 = (0, 0) ∧ lf'5 6 = (0, b) ∧ zr sv L n 172 68 lf'5 [] g1 o)) ∨ (w32 (c - b) = w32 ((g1 253 14) - (g1 253 13)) ∧ (∃ lf'6, lf'6 0 = (4, 253) ∧ lf'6 1 = (6, 3) ∧ lf'6 2 = (0, a) ∧ lf'6 3 = (0, b) ∧ lf'6 4 = (0, c) ∧ lf'6 5 = (0, 1) ∧ lf'6 6 = (0, b) ∧ zr sv L n 172 68 lf'6 [] g1 o)))) ∨ (r2 ≠ 32 ∧ (∃ lf'7, lf'7 0 = (4, 253) ∧ lf'7 1 = (6, 3) ∧ lf'7 2 = (0, a) ∧ lf'7 3 = (0, b) ∧ lf'7 4 = (0, w32 (c + 1)) ∧ zr sv L n 172 25 lf'7 [] g1 o))) := by
  rw [zov h0, zov h1, zov h2, zov h3, zov h4] at h
  have h := zm1 zy_172 h 1 (q := (28, dset (dset (dset (dset (dset lf 4 (0, c)) 3 (0, b)) 2 (0, a)) 1 (6, 3)) 0 (4, 253), [(0, c), (6, 3)], g)) rfl
  dsimp only at h
  obtain ⟨g1, r2, hk, h⟩ := zcallI zy_172 h rfl rfl zy_9 zk_9
  dsimp only at hk h
  refine ⟨g1, r2, hk, ?_⟩
  have h := zm zy_172 h 2 (q := (cond (crel .eq r2 32) 42 36, dset (dset (dset (dset (dset lf 4 (0, c)) 3 (0, b)) 2 (0, a)) 1 (6, 3)) 0 (4, 253), [], g1)) rfl
  dsimp only at h
  rcases zif_eq h with ⟨hc3, h⟩ | ⟨hc3, h⟩
  · refine Or.inl ⟨hc3, ?_⟩
    have h := zm zy_172 h 9 (q := (cond (crel .ne (w32 (c - b)) (w32 ((g1 253 14) - (g1 253 13)))) 62 58, dset (dset (dset (dset (dset lf 4 (0, c)) 3 (0, b)) 2 (0, a)) 1 (6, 3)) 0 (4, 253), [], g1)) rfl
    dsimp only at h
    rcases zif_ne h with ⟨hc4, h⟩ | ⟨hc4, h⟩
    · refine Or.inl ⟨hc4, ?_⟩
      have h := zm zy_172 h 4 (q := (68, dset (dset (dset (dset (dset (dset (dset lf 4 (0, c)) 3 (0, b)) 2 (0, a)) 1 (6, 3)) 0 (4, 253)) 5 (0, 0)) 6 (0, b), [], g1)) rfl
      dsimp only at h
      exact ⟨_, rfl, rfl, rfl, rfl, rfl, rfl, rfl, h⟩
    · refine Or.inr ⟨hc4, ?_⟩
      have h := zm zy_172 h 5 (q := (68, dset (dset (dset (dset (dset (dset (dset lf 4 (0, c)) 3 (0, b)) 2 (0, a)) 1 (6, 3)) 0 (4, 253)) 5 (0, 1)) 6 (0, b), [], g1)) rfl
      dsimp only at h
      exact ⟨_, rfl, rfl, rfl, rfl, rfl, rfl, rfl, h⟩
  · refine Or.inr ⟨hc3, ?_⟩
    have h := zm zy_172 h 2 (q := (25, dset (dset (dset (dset (dset (dset lf 4 (0, c)) 3 (0, b)) 2 (0, a)) 1 (6, 3)) 0 (4, 253)) 4 (0, w32 (c + 1)), [], g1)) rfl
    dsimp only at h
    exact ⟨_, rfl, rfl, rfl, rfl, rfl, h⟩
theorem t_inw68 {sv : Nat → Int32} {L n : Nat} {lf : dlf} {g : cg} {o : cg × Option cv} {a b c d e : Int} (h : zr sv L (n + 1) 172 68 lf [] g o) (h0 : lf 0 = (4, 253)) (h1 : lf 1 = (6, 3)) (h2 : lf 2 = (0, a)) (h3 : lf 3 = (0, b)) (h4 : lf 4 = (0, c)) (h5 : lf 5 = (0, d)) (h6 : lf 6 = (0, e)) : (c ≤ e ∧ ((d = 0 ∧ (∃ lf'3, lf'3 0 = (4, 253) ∧ lf'3 1 = (6, 3) ∧ lf'3 2 = (0, w32 (a + 1)) ∧ lf'3 3 = (0, w32 (c + 1)) ∧ zr sv L n 172 14 lf'3 [] g o)) ∨ (d ≠ 0 ∧ (o = (g, some (0, a)))))) ∨ (e < c ∧ ((d = 0 ∧ (∃ lf'6, lf'6 0 = (4, 253) ∧ lf'6 1 = (6, 3) ∧ lf'6 2 = (0, w32 (a + 1)) ∧ lf'6 3 = (0, w32 (c + 1)) ∧ zr sv L n 172 14 lf'6 [] g o)) ∨ (d ≠ 0 ∧ (∃ g7 r8, zr sv L n 9 0 (darg 0 [(6, 3), (0, e)]) [] g (g7, some (0, r8)) ∧ (∃ g9 r10, zr sv L n 167 0 (darg 0 [(4, 253), (0, w32 ((w32 ((g7 253 13) + e)) - b))]) [] g7 (g9, some (0, r10)) ∧ ((r8 ≠ r10 ∧ (∃ lf'12, lf'12 0 = (4, 253) ∧ lf'12 1 = (6, 3) ∧ lf'12 2 = (0, a) ∧ lf'12 3 = (0, b) ∧ lf'12 4 = (0, c) ∧ lf'12 5 = (0, 0) ∧ lf'12 6 = (0, w32 (e + 1)) ∧ zr sv L n 172 68 lf'12 [] g9 o)) ∨ (r8 = r10 ∧ (∃ lf'13, lf'13 0 = (4, 253) ∧ lf'13 1 = (6, 3) ∧ lf'13 2 = (0, a) ∧ lf'13 3 = (0, b) ∧ lf'13 4 = (0, c) ∧ lf'13 5 = (0, 1) ∧ lf'13 6 = (0, w32 (e + 1)) ∧ zr sv L n 172 68 lf'13 [] g9 o)))))))) := by
  rw [zov h0, zov h1, zov h2, zov h3, zov h4, zov h5, zov h6] at h
  have h := zm1 zy_172 h 2 (q := (cond (crel .ge e c) 115 75, dset (dset (dset (dset (dset (dset (dset lf 6 (0, e)) 5 (0, d)) 4 (0, c)) 3 (0, b)) 2 (0, a)) 1 (6, 3)) 0 (4, 253), [], g)) rfl
  dsimp only at h
  rcases zif_ge h with ⟨hc1, h⟩ | ⟨hc1, h⟩
  · refine Or.inl ⟨hc1, ?_⟩
    have h := zm zy_172 h 2 (q := (cond (crel .eq d 0) 122 120, dset (dset (dset (dset (dset (dset (dset lf 6 (0, e)) 5 (0, d)) 4 (0, c)) 3 (0, b)) 2 (0, a)) 1 (6, 3)) 0 (4, 253), [], g)) rfl
    dsimp only at h
    rcases zif_eq h with ⟨hc2, h⟩ | ⟨hc2, h⟩
    · refine Or.inl ⟨hc2, ?_⟩
      have h := zm zy_172 h 6 (q := (14, dset (dset (dset (dset (dset (dset (dset (dset (dset lf 6 (0, e)) 5 (0, d)) 4 (0, c)) 3 (0, b)) 2 (0, a)) 1 (6, 3)) 0 (4, 253)) 2 (0, w32 (a + 1))) 3 (0, w32 (c + 1)), [], g)) rfl
      dsimp only at h
      exact ⟨_, rfl, rfl, rfl, rfl, h⟩
    · refine Or.inr ⟨hc2, ?_⟩
      have h := zm zy_172 h 1 (q := (121, dset (dset (dset (dset (dset (dset (dset lf 6 (0, e)) 5 (0, d)) 4 (0, c)) 3 (0, b)) 2 (0, a)) 1 (6, 3)) 0 (4, 253), [(0, a)], g)) rfl
      dsimp only at h
      exact zret zy_172 h rfl rfl
  · refine Or.inr ⟨hc1, ?_⟩
    have h := zm zy_172 h 2 (q := (cond (crel .eq d 0) 115 80, dset (dset (dset (dset (dset (dset (dset lf 6 (0, e)) 5 (0, d)) 4 (0, c)) 3 (0, b)) 2 (0, a)) 1 (6, 3)) 0 (4, 253), [], g)) rfl
    dsimp only at h
    rcases zif_eq h with ⟨hc4, h⟩ | ⟨hc4, h⟩
    · refine Or.inl ⟨hc4, ?_⟩
      have h := zm zy_172 h 2 (q := (cond (crel .eq d 0) 122 120, dset (dset (dset (dset (dset (dset (dset lf 6 (0, e)) 5 (0, d)) 4 (0, c)) 3 (0, b)) 2 (0, a)) 1 (6, 3)) 0 (4, 253), [], g)) rfl
      dsimp only at h
      rcases zif_eq h with ⟨hc5, h⟩ | ⟨hc5, h⟩
      · have h := zm zy_172 h 6 (q := (14, dset (dset (dset (dset (dset (dset (dset (dset (dset lf 6 (0, e)) 5 (0, d)) 4 (0, c)) 3 (0, b)) 2 (0, a)) 1 (6, 3)) 0 (4, 253)) 2 (0, w32 (a + 1))) 3 (0, w32 (c + 1)), [], g)) rfl
        dsimp only at h
        exact ⟨_, rfl, rfl, rfl, rfl, h⟩
      · exact absurd hc5 (by omega)
    · refine Or.inr ⟨hc4, ?_⟩
      have h := zm zy_172 h 2 (q := (83, dset (dset (dset (dset (dset (dset (dset lf 6 (0, e)) 5 (0, d)) 4 (0, c)) 3 (0, b)) 2 (0, a)) 1 (6, 3)) 0 (4, 253), [(0, e), (6, 3)], g)) rfl
      dsimp only at h
      obtain ⟨g7, r8, hk, h⟩ := zcallI zy_172 h rfl rfl zy_9 zk_9
      dsimp only at hk h
      refine ⟨g7, r8, hk, ?_⟩
      have h := zm zy_172 h 7 (q := (96, dset (dset (dset (dset (dset (dset (dset lf 6 (0, e)) 5 (0, d)) 4 (0, c)) 3 (0, b)) 2 (0, a)) 1 (6, 3)) 0 (4, 253), [(0, w32 ((w32 ((g7 253 13) + e)) - b)), (4, 253), (0, r8)], g7)) rfl
      dsimp only at h
      obtain ⟨g9, r10, hk, h⟩ := zcallI zy_172 h rfl rfl zy_167 zk_167
      dsimp only at hk h
      refine ⟨g9, r10, hk, ?_⟩
      have h := zm zy_172 h 1 (q := (cond (crel .ne r8 r10) 106 102, dset (dset (dset (dset (dset (dset (dset lf 6 (0, e)) 5 (0, d)) 4 (0, c)) 3 (0, b)) 2 (0, a)) 1 (6, 3)) 0 (4, 253), [], g9)) rfl
      dsimp only at h
      rcases zif_ne h with ⟨hc11, h⟩ | ⟨hc11, h⟩
      · refine Or.inl ⟨hc11, ?_⟩
        have h := zm zy_172 h 4 (q := (68, dset (dset (dset (dset (dset (dset (dset (dset (dset lf 6 (0, e)) 5 (0, d)) 4 (0, c)) 3 (0, b)) 2 (0, a)) 1 (6, 3)) 0 (4, 253)) 5 (0, 0)) 6 (0, w32 (e + 1)), [], g9)) rfl
        dsimp only at h
        exact ⟨_, rfl, rfl, rfl, rfl, rfl, rfl, rfl, h⟩
      · refine Or.inr ⟨hc11, ?_⟩
        have h := zm zy_172 h 5 (q := (68, dset (dset (dset (dset (dset (dset (dset (dset (dset lf 6 (0, e)) 5 (0, d)) 4 (0, c)) 3 (0, b)) 2 (0, a)) 1 (6, 3)) 0 (4, 253)) 5 (0, 1)) 6 (0, w32 (e + 1)), [], g9)) rfl
        dsimp only at h
        exact ⟨_, rfl, rfl, rfl, rfl, rfl, rfl, rfl, h⟩
theorem t_isName {sv : Nat → Int32} {L n : Nat} {lf : dlf} {g : cg} {o : cg × Option cv} (h : zr sv L n 181 0 lf [] g o) (h0 : lf 0 = (4, 253)) (h1 : lf 1 = (6, 3)) : (g 253 12 ≠ 2 ∧ (o = (g, some (0, 0)))) ∨ (g 253 12 = 2 ∧ ((8 < w32 ((g 253 14) - (g 253 13)) ∧ (o = (g, some (0, 0)))) ∨ (w32 ((g 253 14) - (g 253 13)) ≤ 8 ∧ (∃ g3 r4, zr sv L n 172 0 (darg 0 [(4, 253), (6, 3)]) [] g (g3, some (0, r4)) ∧ ((r4 ≠ (-1) ∧ (o = (g3, some (0, 0)))) ∨ (r4 = (-1) ∧ (o = (g3, some (0, 1))))))))) := by
  rw [zov h0, zov h1] at h
  have h := zm zy_181 h 4 (q := (cond (crel .ne (g 253 12) 2) 35 8, dset (dset lf 1 (6, 3)) 0 (4, 253), [], g)) rfl
  dsimp only at h
  rcases zif_ne h with ⟨hc1, h⟩ | ⟨hc1, h⟩
  · refine Or.inl ⟨hc1, ?_⟩
    have h := zm zy_181 h 1 (q := (36, dset (dset lf 1 (6, 3)) 0 (4, 253), [(0, 0)], g)) rfl
    dsimp only at h
    exact zret zy_181 h rfl rfl
  · refine Or.inr ⟨hc1, ?_⟩
    have h := zm zy_181 h 7 (q := (cond (crel .gt (w32 ((g 253 14) - (g 253 13))) 8) 35 22, dset (dset lf 1 (6, 3)) 0 (4, 253), [], g)) rfl
    dsimp only at h
    rcases zif_gt h with ⟨hc2, h⟩ | ⟨hc2, h⟩
    · refine Or.inl ⟨hc2, ?_⟩
      have h := zm zy_181 h 1 (q := (36, dset (dset lf 1 (6, 3)) 0 (4, 253), [(0, 0)], g)) rfl
      dsimp only at h
      exact zret zy_181 h rfl rfl
    · refine Or.inr ⟨hc2, ?_⟩
      have h := zm zy_181 h 2 (q := (24, dset (dset lf 1 (6, 3)) 0 (4, 253), [(6, 3), (4, 253)], g)) rfl
      dsimp only at h
      obtain ⟨g3, r4, hk, h⟩ := zcallI zy_181 h rfl rfl zy_172 zk_172
      dsimp only at hk h
      refine ⟨g3, r4, hk, ?_⟩
      have h := zm zy_181 h 2 (q := (cond (crel .ne r4 ((-1))) 35 31, dset (dset lf 1 (6, 3)) 0 (4, 253), [], g3)) rfl
      dsimp only at h
      rcases zif_ne h with ⟨hc5, h⟩ | ⟨hc5, h⟩
      · refine Or.inl ⟨hc5, ?_⟩
        have h := zm zy_181 h 1 (q := (36, dset (dset lf 1 (6, 3)) 0 (4, 253), [(0, 0)], g3)) rfl
        dsimp only at h
        exact zret zy_181 h rfl rfl
      · refine Or.inr ⟨hc5, ?_⟩
        have h := zm zy_181 h 2 (q := (36, dset (dset lf 1 (6, 3)) 0 (4, 253), [(0, 1)], g3)) rfl
        dsimp only at h
        exact zret zy_181 h rfl rfl
theorem t_name0 {sv : Nat → Int32} {L n : Nat} {lf : dlf} {g : cg} {o : cg × Option cv} (h : zr sv L n 183 0 lf [] g o) (h0 : lf 0 = (4, 253)) : ∃ lf'1, lf'1 0 = (4, 253) ∧ lf'1 1 = (2, 0) ∧ lf'1 3 = (0, g 253 13) ∧ zr sv L n 183 7 lf'1 [] g o := by
  rw [zov h0] at h
  have h := zm zy_183 h 5 (q := (7, dset (dset (dset lf 0 (4, 253)) 1 (2, 0)) 3 (0, g 253 13), [], g)) rfl
  dsimp only at h
  exact ⟨_, rfl, rfl, rfl, h⟩
theorem t_name7 {sv : Nat → Int32} {L n : Nat} {lf : dlf} {g : cg} {o : cg × Option cv} {a b : Int} (h : zr sv L (n + 1) 183 7 lf [] g o) (h0 : lf 0 = (4, 253)) (h1 : lf 1 = (2, a)) (h3 : lf 3 = (0, b)) : (g 253 14 ≤ b ∧ (o = (g, some (2, a)))) ∨ (b < g 253 14 ∧ (∃ g2 r3, zr sv L n 167 0 (darg 0 [(4, 253), (0, b)]) [] g (g2, some (0, r3)) ∧ (∃ lf'4, lf'4 0 = (4, 253) ∧ lf'4 1 = (2, (i64 ((i64 a <<< ((i32 8).toInt64 &&& 63)).toInt) ||| i64 r3).toInt) ∧ lf'4 3 = (0, w32 (b + 1)) ∧ zr sv L n 183 7 lf'4 [] g2 o))) := by
  rw [zov h0, zov h1, zov h3] at h
  have h := zm1 zy_183 h 3 (q := (cond (crel .ge b (g 253 14)) 33 15, dset (dset (dset lf 3 (0, b)) 1 (2, a)) 0 (4, 253), [], g)) rfl
  dsimp only at h
  rcases zif_ge h with ⟨hc1, h⟩ | ⟨hc1, h⟩
  · refine Or.inl ⟨hc1, ?_⟩
    have h := zm zy_183 h 1 (q := (34, dset (dset (dset lf 3 (0, b)) 1 (2, a)) 0 (4, 253), [(2, a)], g)) rfl
    dsimp only at h
    exact zret zy_183 h rfl rfl
  · refine Or.inr ⟨hc1, ?_⟩
    have h := zm zy_183 h 5 (q := (21, dset (dset (dset lf 3 (0, b)) 1 (2, a)) 0 (4, 253), [(0, b), (4, 253), (2, (i64 a <<< ((i32 8).toInt64 &&& 63)).toInt)], g)) rfl
    dsimp only at h
    obtain ⟨g2, r3, hk, h⟩ := zcallI zy_183 h rfl rfl zy_167 zk_167
    dsimp only at hk h
    refine ⟨g2, r3, hk, ?_⟩
    have h := zm zy_183 h 5 (q := (7, dset (dset (dset (dset (dset lf 3 (0, b)) 1 (2, a)) 0 (4, 253)) 1 (2, (i64 ((i64 a <<< ((i32 8).toInt64 &&& 63)).toInt) ||| i64 r3).toInt)) 3 (0, w32 (b + 1)), [], g2)) rfl
    dsimp only at h
    exact ⟨_, rfl, rfl, rfl, h⟩
theorem t_fails {sv : Nat → Int32} {L n : Nat} {lf : dlf} {g : cg} {o : cg × Option cv} {a : Int} (h : zr sv L n 173 0 lf [] g o) (h0 : lf 0 = (4, 253)) (h1 : lf 1 = (0, a)) : (g 253 18 ≠ 0 ∧ (o = (g, some (0, 0)))) ∨ (g 253 18 = 0 ∧ ((g 253 12 ≠ 1 ∧ (o = (cup (cup g 253 18 a) 253 17 (g 253 13), some (0, 0)))) ∨ (g 253 12 = 1 ∧ (o = (cup (cup g 253 18 1) 253 17 (g 253 13), some (0, 0)))))) := by
  rw [zov h0, zov h1] at h
  have h := zm zy_173 h 3 (q := (cond (crel .ne (g 253 18) 0) 32 7, dset (dset lf 1 (0, a)) 0 (4, 253), [], g)) rfl
  dsimp only at h
  rcases zif_ne h with ⟨hc1, h⟩ | ⟨hc1, h⟩
  · refine Or.inl ⟨hc1, ?_⟩
    have h := zm zy_173 h 1 (q := (33, dset (dset lf 1 (0, a)) 0 (4, 253), [(0, 0)], g)) rfl
    dsimp only at h
    exact zret zy_173 h rfl rfl
  · refine Or.inr ⟨hc1, ?_⟩
    have h := zm zy_173 h 5 (q := (cond (crel .ne (g 253 12) 1) 20 16, dset (dset lf 1 (0, a)) 0 (4, 253), [(4, 253)], g)) rfl
    dsimp only at h
    rcases zif_ne h with ⟨hc2, h⟩ | ⟨hc2, h⟩
    · refine Or.inl ⟨hc2, ?_⟩
      have h := zm zy_173 h 7 (q := (33, dset (dset lf 1 (0, a)) 0 (4, 253), [(0, 0)], cup (cup g 253 18 a) 253 17 (g 253 13))) rfl
      dsimp only at h
      exact zret zy_173 h rfl rfl
    · refine Or.inr ⟨hc2, ?_⟩
      have h := zm zy_173 h 8 (q := (33, dset (dset lf 1 (0, a)) 0 (4, 253), [(0, 0)], cup (cup g 253 18 1) 253 17 (g 253 13))) rfl
      dsimp only at h
      exact zret zy_173 h rfl rfl
theorem t_isSign {sv : Nat → Int32} {L n : Nat} {lf : dlf} {g : cg} {o : cg × Option cv} {a : Int} (h : zr sv L n 177 0 lf [] g o) (h0 : lf 0 = (4, 253)) (h1 : lf 1 = (0, a)) : (g 253 12 ≠ 4 ∧ (o = (g, some (0, 0)))) ∨ (g 253 12 = 4 ∧ ((g 253 15 ≠ a ∧ (o = (g, some (0, 0)))) ∨ (g 253 15 = a ∧ (o = (g, some (0, 1)))))) := by
  rw [zov h0, zov h1] at h
  have h := zm zy_177 h 4 (q := (cond (crel .ne (g 253 12) 4) 20 8, dset (dset lf 1 (0, a)) 0 (4, 253), [], g)) rfl
  dsimp only at h
  rcases zif_ne h with ⟨hc1, h⟩ | ⟨hc1, h⟩
  · refine Or.inl ⟨hc1, ?_⟩
    have h := zm zy_177 h 1 (q := (21, dset (dset lf 1 (0, a)) 0 (4, 253), [(0, 0)], g)) rfl
    dsimp only at h
    exact zret zy_177 h rfl rfl
  · refine Or.inr ⟨hc1, ?_⟩
    have h := zm zy_177 h 4 (q := (cond (crel .ne (g 253 15) a) 20 16, dset (dset lf 1 (0, a)) 0 (4, 253), [], g)) rfl
    dsimp only at h
    rcases zif_ne h with ⟨hc2, h⟩ | ⟨hc2, h⟩
    · refine Or.inl ⟨hc2, ?_⟩
      have h := zm zy_177 h 1 (q := (21, dset (dset lf 1 (0, a)) 0 (4, 253), [(0, 0)], g)) rfl
      dsimp only at h
      exact zret zy_177 h rfl rfl
    · refine Or.inr ⟨hc2, ?_⟩
      have h := zm zy_177 h 2 (q := (21, dset (dset lf 1 (0, a)) 0 (4, 253), [(0, 1)], g)) rfl
      dsimp only at h
      exact zret zy_177 h rfl rfl
theorem t_wantSign {sv : Nat → Int32} {L n : Nat} {lf : dlf} {g : cg} {o : cg × Option cv} {a : Int} (h : zr sv L n 176 0 lf [] g o) (h0 : lf 0 = (4, 253)) (h1 : lf 1 = (0, a)) : ∃ g1 r2, zr sv L n 177 0 (darg 0 [(4, 253), (0, a)]) [] g (g1, some (0, r2)) ∧ ((r2 ≠ 0 ∧ (∃ g4, zr sv L n 166 0 (darg 0 [(4, 253)]) [] g1 (g4, none) ∧ (o = (g4, some (0, 1))))) ∨ (r2 = 0 ∧ (∃ g5 r6, zr sv L n 173 0 (darg 0 [(4, 253), (0, 2)]) [] g1 (g5, some (0, r6)) ∧ (o = (g5, some (0, r6)))))) := by
  rw [zov h0, zov h1] at h
  have h := zm zy_176 h 2 (q := (2, dset (dset lf 1 (0, a)) 0 (4, 253), [(0, a), (4, 253)], g)) rfl
  dsimp only at h
  obtain ⟨g1, r2, hk, h⟩ := zcallI zy_176 h rfl rfl zy_177 zk_177
  dsimp only at hk h
  refine ⟨g1, r2, hk, ?_⟩
  have h := zm zy_176 h 1 (q := (cond (crel .ne r2 0) 14 8, dset (dset lf 1 (0, a)) 0 (4, 253), [], g1)) rfl
  dsimp only at h
  rcases zif_ne h with ⟨hc3, h⟩ | ⟨hc3, h⟩
  · refine Or.inl ⟨hc3, ?_⟩
    have h := zm zy_176 h 1 (q := (15, dset (dset lf 1 (0, a)) 0 (4, 253), [(4, 253)], g1)) rfl
    dsimp only at h
    obtain ⟨g4, hk, h⟩ := zcallV zy_176 h rfl rfl zy_166 zk_166
    dsimp only at hk h
    refine ⟨g4, hk, ?_⟩
    have h := zm zy_176 h 1 (q := (19, dset (dset lf 1 (0, a)) 0 (4, 253), [(0, 1)], g4)) rfl
    dsimp only at h
    exact zret zy_176 h rfl rfl
  · refine Or.inr ⟨hc3, ?_⟩
    have h := zm zy_176 h 2 (q := (10, dset (dset lf 1 (0, a)) 0 (4, 253), [(0, 2), (4, 253)], g1)) rfl
    dsimp only at h
    obtain ⟨g5, r6, hk, h⟩ := zcallI zy_176 h rfl rfl zy_173 zk_173
    dsimp only at hk h
    refine ⟨g5, r6, hk, ?_⟩
    exact zret zy_176 h rfl rfl
theorem t_wantWord {sv : Nat → Int32} {L n : Nat} {lf : dlf} {g : cg} {o : cg × Option cv} {a : Int} (h : zr sv L n 184 0 lf [] g o) (h0 : lf 0 = (4, 253)) (h1 : lf 1 = (6, 3)) (h2 : lf 2 = (0, a)) : ∃ g1 r2, zr sv L n 172 0 (darg 0 [(4, 253), (6, 3)]) [] g (g1, some (0, r2)) ∧ ((r2 = a ∧ (∃ g4, zr sv L n 166 0 (darg 0 [(4, 253)]) [] g1 (g4, none) ∧ (o = (g4, some (0, 1))))) ∨ (r2 ≠ a ∧ (∃ g5 r6, zr sv L n 173 0 (darg 0 [(4, 253), (0, 2)]) [] g1 (g5, some (0, r6)) ∧ (o = (g5, some (0, r6)))))) := by
  rw [zov h0, zov h1, zov h2] at h
  have h := zm zy_184 h 2 (q := (2, dset (dset (dset lf 2 (0, a)) 1 (6, 3)) 0 (4, 253), [(6, 3), (4, 253)], g)) rfl
  dsimp only at h
  obtain ⟨g1, r2, hk, h⟩ := zcallI zy_184 h rfl rfl zy_172 zk_172
  dsimp only at hk h
  refine ⟨g1, r2, hk, ?_⟩
  have h := zm zy_184 h 2 (q := (cond (crel .eq r2 a) 15 9, dset (dset (dset lf 2 (0, a)) 1 (6, 3)) 0 (4, 253), [], g1)) rfl
  dsimp only at h
  rcases zif_eq h with ⟨hc3, h⟩ | ⟨hc3, h⟩
  · refine Or.inl ⟨hc3, ?_⟩
    have h := zm zy_184 h 1 (q := (16, dset (dset (dset lf 2 (0, a)) 1 (6, 3)) 0 (4, 253), [(4, 253)], g1)) rfl
    dsimp only at h
    obtain ⟨g4, hk, h⟩ := zcallV zy_184 h rfl rfl zy_166 zk_166
    dsimp only at hk h
    refine ⟨g4, hk, ?_⟩
    have h := zm zy_184 h 1 (q := (20, dset (dset (dset lf 2 (0, a)) 1 (6, 3)) 0 (4, 253), [(0, 1)], g4)) rfl
    dsimp only at h
    exact zret zy_184 h rfl rfl
  · refine Or.inr ⟨hc3, ?_⟩
    have h := zm zy_184 h 2 (q := (11, dset (dset (dset lf 2 (0, a)) 1 (6, 3)) 0 (4, 253), [(0, 2), (4, 253)], g1)) rfl
    dsimp only at h
    obtain ⟨g5, r6, hk, h⟩ := zcallI zy_184 h rfl rfl zy_173 zk_173
    dsimp only at hk h
    refine ⟨g5, r6, hk, ?_⟩
    exact zret zy_184 h rfl rfl
theorem t_isThere {sv : Nat → Int32} {L n : Nat} {lf : dlf} {g : cg} {o : cg × Option cv} {a : Int} (h : zr sv L n 189 0 lf [] g o) (h0 : lf 0 = (4, 253)) (h1 : lf 1 = (0, a)) : ∃ g1 r2, zr sv L n 172 0 (darg 0 [(4, 253), (6, 3)]) [] g (g1, some (0, r2)) ∧ ((r2 = a ∧ (∃ g4, zr sv L n 166 0 (darg 0 [(4, 253)]) [] g1 (g4, none) ∧ (o = (g4, some (0, 1))))) ∨ (r2 ≠ a ∧ (o = (g1, some (0, 0))))) := by
  rw [zov h0, zov h1] at h
  have h := zm zy_189 h 2 (q := (3, dset (dset lf 1 (0, a)) 0 (4, 253), [(6, 3), (4, 253)], g)) rfl
  dsimp only at h
  obtain ⟨g1, r2, hk, h⟩ := zcallI zy_189 h rfl rfl zy_172 zk_172
  dsimp only at hk h
  refine ⟨g1, r2, hk, ?_⟩
  have h := zm zy_189 h 2 (q := (cond (crel .eq r2 a) 12 10, dset (dset lf 1 (0, a)) 0 (4, 253), [], g1)) rfl
  dsimp only at h
  rcases zif_eq h with ⟨hc3, h⟩ | ⟨hc3, h⟩
  · refine Or.inl ⟨hc3, ?_⟩
    have h := zm zy_189 h 1 (q := (13, dset (dset lf 1 (0, a)) 0 (4, 253), [(4, 253)], g1)) rfl
    dsimp only at h
    obtain ⟨g4, hk, h⟩ := zcallV zy_189 h rfl rfl zy_166 zk_166
    dsimp only at hk h
    refine ⟨g4, hk, ?_⟩
    have h := zm zy_189 h 1 (q := (17, dset (dset lf 1 (0, a)) 0 (4, 253), [(0, 1)], g4)) rfl
    dsimp only at h
    exact zret zy_189 h rfl rfl
  · refine Or.inr ⟨hc3, ?_⟩
    have h := zm zy_189 h 1 (q := (11, dset (dset lf 1 (0, a)) 0 (4, 253), [(0, 0)], g1)) rfl
    dsimp only at h
    exact zret zy_189 h rfl rfl
theorem t_number {sv : Nat → Int32} {L n : Nat} {lf : dlf} {g : cg} {o : cg × Option cv} {a b c : Int} (h : zr sv L n 175 0 lf [] g o) (h0 : lf 0 = (4, 253)) (h1 : lf 1 = (0, a)) (h2 : lf 2 = (0, b)) (h3 : lf 3 = (0, c)) : (g 253 12 = 3 ∧ ((g 253 15 < b ∧ (∃ g3 r4, zr sv L n 173 0 (darg 0 [(4, 253), (0, 4)]) [] g (g3, some (0, r4)) ∧ (o = (g3, some (0, r4))))) ∨ (b ≤ g 253 15 ∧ ((g 253 15 ≤ c ∧ (∃ g6, zr sv L n 166 0 (darg 0 [(4, 253)]) [] (cup g 254 ((a).toNat) (g 253 15)) (g6, none) ∧ (o = (g6, some (0, 1))))) ∨ (c < g 253 15 ∧ (∃ g7 r8, zr sv L n 173 0 (darg 0 [(4, 253), (0, 4)]) [] g (g7, some (0, r8)) ∧ (o = (g7, some (0, r8))))))))) ∨ (g 253 12 ≠ 3 ∧ (∃ g9 r10, zr sv L n 173 0 (darg 0 [(4, 253), (0, 2)]) [] g (g9, some (0, r10)) ∧ (o = (g9, some (0, r10))))) := by
  rw [zov h0, zov h1, zov h2, zov h3] at h
  have h := zm zy_175 h 4 (q := (cond (crel .eq (g 253 12) 3) 14 8, dset (dset (dset (dset lf 3 (0, c)) 2 (0, b)) 1 (0, a)) 0 (4, 253), [], g)) rfl
  dsimp only at h
  rcases zif_eq h with ⟨hc1, h⟩ | ⟨hc1, h⟩
  · refine Or.inl ⟨hc1, ?_⟩
    have h := zm zy_175 h 4 (q := (cond (crel .lt (g 253 15) b) 30 22, dset (dset (dset (dset lf 3 (0, c)) 2 (0, b)) 1 (0, a)) 0 (4, 253), [], g)) rfl
    dsimp only at h
    rcases zif_lt h with ⟨hc2, h⟩ | ⟨hc2, h⟩
    · refine Or.inl ⟨hc2, ?_⟩
      have h := zm zy_175 h 2 (q := (32, dset (dset (dset (dset lf 3 (0, c)) 2 (0, b)) 1 (0, a)) 0 (4, 253), [(0, 4), (4, 253)], g)) rfl
      dsimp only at h
      obtain ⟨g3, r4, hk, h⟩ := zcallI zy_175 h rfl rfl zy_173 zk_173
      dsimp only at hk h
      refine ⟨g3, r4, hk, ?_⟩
      exact zret zy_175 h rfl rfl
    · refine Or.inr ⟨hc2, ?_⟩
      have h := zm zy_175 h 4 (q := (cond (crel .le (g 253 15) c) 36 30, dset (dset (dset (dset lf 3 (0, c)) 2 (0, b)) 1 (0, a)) 0 (4, 253), [], g)) rfl
      dsimp only at h
      rcases zif_le h with ⟨hc5, h⟩ | ⟨hc5, h⟩
      · refine Or.inl ⟨hc5, ?_⟩
        have h := zm zy_175 h 7 (q := (47, dset (dset (dset (dset lf 3 (0, c)) 2 (0, b)) 1 (0, a)) 0 (4, 253), [(4, 253)], cup g 254 ((a).toNat) (g 253 15))) rfl
        dsimp only at h
        obtain ⟨g6, hk, h⟩ := zcallV zy_175 h rfl rfl zy_166 zk_166
        dsimp only at hk h
        refine ⟨g6, hk, ?_⟩
        have h := zm zy_175 h 1 (q := (51, dset (dset (dset (dset lf 3 (0, c)) 2 (0, b)) 1 (0, a)) 0 (4, 253), [(0, 1)], g6)) rfl
        dsimp only at h
        exact zret zy_175 h rfl rfl
      · refine Or.inr ⟨hc5, ?_⟩
        have h := zm zy_175 h 2 (q := (32, dset (dset (dset (dset lf 3 (0, c)) 2 (0, b)) 1 (0, a)) 0 (4, 253), [(0, 4), (4, 253)], g)) rfl
        dsimp only at h
        obtain ⟨g7, r8, hk, h⟩ := zcallI zy_175 h rfl rfl zy_173 zk_173
        dsimp only at hk h
        refine ⟨g7, r8, hk, ?_⟩
        exact zret zy_175 h rfl rfl
  · refine Or.inr ⟨hc1, ?_⟩
    have h := zm zy_175 h 2 (q := (10, dset (dset (dset (dset lf 3 (0, c)) 2 (0, b)) 1 (0, a)) 0 (4, 253), [(0, 2), (4, 253)], g)) rfl
    dsimp only at h
    obtain ⟨g9, r10, hk, h⟩ := zcallI zy_175 h rfl rfl zy_173 zk_173
    dsimp only at hk h
    refine ⟨g9, r10, hk, ?_⟩
    exact zret zy_175 h rfl rfl
theorem t_fail {sv : Nat → Int32} {L n : Nat} {lf : dlf} {g : cg} {o : cg × Option cv} {a : Int} (h : zr sv L n 39 0 lf [] g o) (h0 : lf 0 = (4, 88)) (h1 : lf 1 = (0, a)) : (g 88 4 ≠ 6 ∧ (o = (cup (cup g 88 10 a) 88 11 (g 88 5), some (0, 0)))) ∨ (g 88 4 = 6 ∧ (o = (cup (cup g 88 10 1) 88 11 (g 88 5), some (0, 0)))) := by
  rw [zov h0, zov h1] at h
  have h := zm zy_39 h 5 (q := (cond (crel .ne (g 88 4) 6) 14 10, dset (dset lf 1 (0, a)) 0 (4, 88), [(4, 88)], g)) rfl
  dsimp only at h
  rcases zif_ne h with ⟨hc1, h⟩ | ⟨hc1, h⟩
  · refine Or.inl ⟨hc1, ?_⟩
    have h := zm zy_39 h 7 (q := (27, dset (dset lf 1 (0, a)) 0 (4, 88), [(0, 0)], cup (cup g 88 10 a) 88 11 (g 88 5))) rfl
    dsimp only at h
    exact zret zy_39 h rfl rfl
  · refine Or.inr ⟨hc1, ?_⟩
    have h := zm zy_39 h 8 (q := (27, dset (dset lf 1 (0, a)) 0 (4, 88), [(0, 0)], cup (cup g 88 10 1) 88 11 (g 88 5))) rfl
    dsimp only at h
    exact zret zy_39 h rfl rfl
theorem t_failAt {sv : Nat → Int32} {L n : Nat} {lf : dlf} {g : cg} {o : cg × Option cv} {a b : Int} (h : zr sv L n 50 0 lf [] g o) (h0 : lf 0 = (4, 88)) (h1 : lf 1 = (0, a)) (h2 : lf 2 = (0, b)) : o = (cup (cup g 88 10 b) 88 11 a, some (0, 0)) := by
  rw [zov h0, zov h1, zov h2] at h
  have h := zm zy_50 h 7 (q := (11, dset (dset (dset lf 2 (0, b)) 1 (0, a)) 0 (4, 88), [(0, 0)], cup (cup g 88 10 b) 88 11 a)) rfl
  dsimp only at h
  exact zret zy_50 h rfl rfl
theorem t_pass {sv : Nat → Int32} {L n : Nat} {lf : dlf} {g : cg} {o : cg × Option cv} {a : Int} (h : zr sv L n 46 0 lf [] g o) (h0 : lf 0 = (4, 88)) (h1 : lf 1 = (0, a)) : (g 88 7 = a ∧ (∃ g2, zr sv L n 37 0 (darg 0 [(4, 88)]) [] g (g2, none) ∧ (o = (g2, some (0, 1))))) ∨ (g 88 7 ≠ a ∧ (∃ g3 r4, zr sv L n 39 0 (darg 0 [(4, 88), (0, 2)]) [] g (g3, some (0, r4)) ∧ (o = (g3, some (0, r4))))) := by
  rw [zov h0, zov h1] at h
  have h := zm zy_46 h 4 (q := (cond (crel .eq (g 88 7) a) 14 8, dset (dset lf 1 (0, a)) 0 (4, 88), [], g)) rfl
  dsimp only at h
  rcases zif_eq h with ⟨hc1, h⟩ | ⟨hc1, h⟩
  · refine Or.inl ⟨hc1, ?_⟩
    have h := zm zy_46 h 1 (q := (15, dset (dset lf 1 (0, a)) 0 (4, 88), [(4, 88)], g)) rfl
    dsimp only at h
    obtain ⟨g2, hk, h⟩ := zcallV zy_46 h rfl rfl zy_37 zk_37
    dsimp only at hk h
    refine ⟨g2, hk, ?_⟩
    have h := zm zy_46 h 1 (q := (19, dset (dset lf 1 (0, a)) 0 (4, 88), [(0, 1)], g2)) rfl
    dsimp only at h
    exact zret zy_46 h rfl rfl
  · refine Or.inr ⟨hc1, ?_⟩
    have h := zm zy_46 h 2 (q := (10, dset (dset lf 1 (0, a)) 0 (4, 88), [(0, 2), (4, 88)], g)) rfl
    dsimp only at h
    obtain ⟨g3, r4, hk, h⟩ := zcallI zy_46 h rfl rfl zy_39 zk_39
    dsimp only at hk h
    refine ⟨g3, r4, hk, ?_⟩
    exact zret zy_46 h rfl rfl
theorem t_passIf {sv : Nat → Int32} {L n : Nat} {lf : dlf} {g : cg} {o : cg × Option cv} {a : Int} (h : zr sv L n 57 0 lf [] g o) (h0 : lf 0 = (4, 88)) (h1 : lf 1 = (0, a)) : (g 88 7 = a ∧ (∃ g2, zr sv L n 37 0 (darg 0 [(4, 88)]) [] g (g2, none) ∧ (o = (g2, some (0, 1))))) ∨ (g 88 7 ≠ a ∧ (o = (g, some (0, 0)))) := by
  rw [zov h0, zov h1] at h
  have h := zm zy_57 h 4 (q := (cond (crel .eq (g 88 7) a) 10 8, dset (dset lf 1 (0, a)) 0 (4, 88), [], g)) rfl
  dsimp only at h
  rcases zif_eq h with ⟨hc1, h⟩ | ⟨hc1, h⟩
  · refine Or.inl ⟨hc1, ?_⟩
    have h := zm zy_57 h 1 (q := (11, dset (dset lf 1 (0, a)) 0 (4, 88), [(4, 88)], g)) rfl
    dsimp only at h
    obtain ⟨g2, hk, h⟩ := zcallV zy_57 h rfl rfl zy_37 zk_37
    dsimp only at hk h
    refine ⟨g2, hk, ?_⟩
    have h := zm zy_57 h 1 (q := (15, dset (dset lf 1 (0, a)) 0 (4, 88), [(0, 1)], g2)) rfl
    dsimp only at h
    exact zret zy_57 h rfl rfl
  · refine Or.inr ⟨hc1, ?_⟩
    have h := zm zy_57 h 1 (q := (9, dset (dset lf 1 (0, a)) 0 (4, 88), [(0, 0)], g)) rfl
    dsimp only at h
    exact zret zy_57 h rfl rfl
theorem t_passStop {sv : Nat → Int32} {L n : Nat} {lf : dlf} {g : cg} {o : cg × Option cv} (h : zr sv L n 42 0 lf [] g o) (h0 : lf 0 = (4, 88)) : (g 88 4 ≠ 5 ∧ (∃ g2 r3, zr sv L n 39 0 (darg 0 [(4, 88), (0, 2)]) [] g (g2, some (0, r3)) ∧ (o = (g2, some (0, r3))))) ∨ (g 88 4 = 5 ∧ ((g 88 9 = 59 ∧ (∃ g5, zr sv L n 37 0 (darg 0 [(4, 88)]) [] g (g5, none) ∧ (o = (g5, some (0, 1))))) ∨ (g 88 9 ≠ 59 ∧ (∃ g6 r7, zr sv L n 39 0 (darg 0 [(4, 88), (0, 2)]) [] g (g6, some (0, r7)) ∧ (o = (g6, some (0, r7))))))) := by
  rw [zov h0] at h
  have h := zm zy_42 h 4 (q := (cond (crel .ne (g 88 4) 5) 17 8, dset lf 0 (4, 88), [], g)) rfl
  dsimp only at h
  rcases zif_ne h with ⟨hc1, h⟩ | ⟨hc1, h⟩
  · refine Or.inl ⟨hc1, ?_⟩
    have h := zm zy_42 h 2 (q := (19, dset lf 0 (4, 88), [(0, 2), (4, 88)], g)) rfl
    dsimp only at h
    obtain ⟨g2, r3, hk, h⟩ := zcallI zy_42 h rfl rfl zy_39 zk_39
    dsimp only at hk h
    refine ⟨g2, r3, hk, ?_⟩
    exact zret zy_42 h rfl rfl
  · refine Or.inr ⟨hc1, ?_⟩
    have h := zm zy_42 h 4 (q := (cond (crel .eq (g 88 9) 59) 23 17, dset lf 0 (4, 88), [], g)) rfl
    dsimp only at h
    rcases zif_eq h with ⟨hc4, h⟩ | ⟨hc4, h⟩
    · refine Or.inl ⟨hc4, ?_⟩
      have h := zm zy_42 h 1 (q := (24, dset lf 0 (4, 88), [(4, 88)], g)) rfl
      dsimp only at h
      obtain ⟨g5, hk, h⟩ := zcallV zy_42 h rfl rfl zy_37 zk_37
      dsimp only at hk h
      refine ⟨g5, hk, ?_⟩
      have h := zm zy_42 h 1 (q := (28, dset lf 0 (4, 88), [(0, 1)], g5)) rfl
      dsimp only at h
      exact zret zy_42 h rfl rfl
    · refine Or.inr ⟨hc4, ?_⟩
      have h := zm zy_42 h 2 (q := (19, dset lf 0 (4, 88), [(0, 2), (4, 88)], g)) rfl
      dsimp only at h
      obtain ⟨g6, r7, hk, h⟩ := zcallI zy_42 h rfl rfl zy_39 zk_39
      dsimp only at hk h
      refine ⟨g6, r7, hk, ?_⟩
      exact zret zy_42 h rfl rfl
theorem t_passNum {sv : Nat → Int32} {L n : Nat} {lf : dlf} {g : cg} {o : cg × Option cv} {a b : Int} (h : zr sv L n 41 0 lf [] g o) (h0 : lf 0 = (4, 88)) (h1 : lf 1 = (0, a)) (h2 : lf 2 = (0, b)) : (g 88 4 ≠ 4 ∧ (∃ g3 r4, zr sv L n 39 0 (darg 0 [(4, 88), (0, 2)]) [] g (g3, some (0, r4)) ∧ (o = (g3, some (0, (-1)))))) ∨ (g 88 4 = 4 ∧ ((g 88 8 < a ∧ (∃ g7 r8, zr sv L n 39 0 (darg 0 [(4, 88), (0, 4)]) [] g (g7, some (0, r8)) ∧ (o = (g7, some (0, (-1)))))) ∨ (a ≤ g 88 8 ∧ ((g 88 8 ≤ b ∧ (∃ g10, zr sv L n 37 0 (darg 0 [(4, 88)]) [] g (g10, none) ∧ (o = (g10, some (0, g 88 8))))) ∨ (b < g 88 8 ∧ (∃ g12 r13, zr sv L n 39 0 (darg 0 [(4, 88), (0, 4)]) [] g (g12, some (0, r13)) ∧ (o = (g12, some (0, (-1)))))))))) := by
  rw [zov h0, zov h1, zov h2] at h
  have h := zm zy_41 h 4 (q := (cond (crel .ne (g 88 4) 4) 24 8, dset (dset (dset lf 2 (0, b)) 1 (0, a)) 0 (4, 88), [], g)) rfl
  dsimp only at h
  rcases zif_ne h with ⟨hc1, h⟩ | ⟨hc1, h⟩
  · refine Or.inl ⟨hc1, ?_⟩
    have h := zm zy_41 h 5 (q := (cond (crel .ne (g 88 4) 4) 37 33, dset (dset (dset lf 2 (0, b)) 1 (0, a)) 0 (4, 88), [(4, 88)], g)) rfl
    dsimp only at h
    rcases zif_ne h with ⟨hc2, h⟩ | ⟨hc2, h⟩
    · have h := zm zy_41 h 1 (q := (38, dset (dset (dset lf 2 (0, b)) 1 (0, a)) 0 (4, 88), [(0, 2), (4, 88)], g)) rfl
      dsimp only at h
      obtain ⟨g3, r4, hk, h⟩ := zcallI zy_41 h rfl rfl zy_39 zk_39
      dsimp only at hk h
      refine ⟨g3, r4, hk, ?_⟩
      have h := zm zy_41 h 2 (q := (43, dset (dset (dset lf 2 (0, b)) 1 (0, a)) 0 (4, 88), [(0, (-1))], g3)) rfl
      dsimp only at h
      exact zret zy_41 h rfl rfl
    · exact absurd hc2 (by omega)
  · refine Or.inr ⟨hc1, ?_⟩
    have h := zm zy_41 h 4 (q := (cond (crel .lt (g 88 8) a) 24 16, dset (dset (dset lf 2 (0, b)) 1 (0, a)) 0 (4, 88), [], g)) rfl
    dsimp only at h
    rcases zif_lt h with ⟨hc5, h⟩ | ⟨hc5, h⟩
    · refine Or.inl ⟨hc5, ?_⟩
      have h := zm zy_41 h 5 (q := (cond (crel .ne (g 88 4) 4) 37 33, dset (dset (dset lf 2 (0, b)) 1 (0, a)) 0 (4, 88), [(4, 88)], g)) rfl
      dsimp only at h
      rcases zif_ne h with ⟨hc6, h⟩ | ⟨hc6, h⟩
      · exact absurd hc6 (by omega)
      · have h := zm zy_41 h 2 (q := (38, dset (dset (dset lf 2 (0, b)) 1 (0, a)) 0 (4, 88), [(0, 4), (4, 88)], g)) rfl
        dsimp only at h
        obtain ⟨g7, r8, hk, h⟩ := zcallI zy_41 h rfl rfl zy_39 zk_39
        dsimp only at hk h
        refine ⟨g7, r8, hk, ?_⟩
        have h := zm zy_41 h 2 (q := (43, dset (dset (dset lf 2 (0, b)) 1 (0, a)) 0 (4, 88), [(0, (-1))], g7)) rfl
        dsimp only at h
        exact zret zy_41 h rfl rfl
    · refine Or.inr ⟨hc5, ?_⟩
      have h := zm zy_41 h 4 (q := (cond (crel .le (g 88 8) b) 44 24, dset (dset (dset lf 2 (0, b)) 1 (0, a)) 0 (4, 88), [], g)) rfl
      dsimp only at h
      rcases zif_le h with ⟨hc9, h⟩ | ⟨hc9, h⟩
      · refine Or.inl ⟨hc9, ?_⟩
        have h := zm zy_41 h 4 (q := (50, dset (dset (dset (dset lf 2 (0, b)) 1 (0, a)) 0 (4, 88)) 3 (0, g 88 8), [(4, 88)], g)) rfl
        dsimp only at h
        obtain ⟨g10, hk, h⟩ := zcallV zy_41 h rfl rfl zy_37 zk_37
        dsimp only at hk h
        refine ⟨g10, hk, ?_⟩
        have h := zm zy_41 h 1 (q := (54, dset (dset (dset (dset lf 2 (0, b)) 1 (0, a)) 0 (4, 88)) 3 (0, g 88 8), [(0, g 88 8)], g10)) rfl
        dsimp only at h
        exact zret zy_41 h rfl rfl
      · refine Or.inr ⟨hc9, ?_⟩
        have h := zm zy_41 h 5 (q := (cond (crel .ne (g 88 4) 4) 37 33, dset (dset (dset lf 2 (0, b)) 1 (0, a)) 0 (4, 88), [(4, 88)], g)) rfl
        dsimp only at h
        rcases zif_ne h with ⟨hc11, h⟩ | ⟨hc11, h⟩
        · exact absurd hc11 (by omega)
        · have h := zm zy_41 h 2 (q := (38, dset (dset (dset lf 2 (0, b)) 1 (0, a)) 0 (4, 88), [(0, 4), (4, 88)], g)) rfl
          dsimp only at h
          obtain ⟨g12, r13, hk, h⟩ := zcallI zy_41 h rfl rfl zy_39 zk_39
          dsimp only at hk h
          refine ⟨g12, r13, hk, ?_⟩
          have h := zm zy_41 h 2 (q := (43, dset (dset (dset lf 2 (0, b)) 1 (0, a)) 0 (4, 88), [(0, (-1))], g12)) rfl
          dsimp only at h
          exact zret zy_41 h rfl rfl
end
