/-! the tape fed: printed by program (wip/tools/zfd.py) -/
section
set_option maxRecDepth 100000
theorem zbst {sv : Nat → Int32} {L n y pc : Nat} {t : Lean.RArray (Nat × xins)} {lf : dlf} {st : List cv} {g : cg} {o : cg × Option cv} (hy : xg xcode y = some t) {nx tg r1 r2 : Nat} {v i k : Int} (h : zr sv L n y pc lf ((0, v) :: (0, i) :: (4, k) :: st) g o) (he : xg t pc = some (.bastore, nx, tg, r1, r2)) : zr sv L n y nx lf st (cup g k.toNat i.toNat ((i32 v).toInt8.toInt32.toInt)) o := zs hy he rfl h
theorem zy_31 : xg xcode 31 = some xt_31 := rfl
theorem zk_31 : zkc 0 xt_31 = true := by decide +kernel
theorem zy_164 : xg xcode 164 = some xt_164 := rfl
theorem zk_164 : zkc 0 xt_164 = true := by decide +kernel
theorem zy_271 : xg xcode 271 = some xt_271 := rfl
theorem zk_271 : zkc 1 xt_271 = true := by decide +kernel
theorem zy_272 : xg xcode 272 = some xt_272 := rfl
theorem zk_272 : zkc 1 xt_272 = true := by decide +kernel
theorem t_feed {sv : Nat → Int32} {L n : Nat} {lf : dlf} {g : cg} {o : cg × Option cv} {a b c d e : Int} (h : zr sv L n 271 0 lf [] g o) (h0 : lf 0 = (4, 0)) (h1 : lf 1 = (0, a)) (h2 : lf 2 = (0, b)) (h3 : lf 3 = (0, c)) (h4 : lf 4 = (0, d)) (h5 : lf 5 = (0, e)) : (w32 ((g 0 5) + 20) ≤ 900 ∧ (∃ g2, zr sv L n 31 0 (darg 0 [(4, 0), (0, a)]) [] g (g2, none) ∧ (∃ g3, zr sv L n 31 0 (darg 0 [(4, 0), (0, b)]) [] g2 (g3, none) ∧ (∃ g4, zr sv L n 31 0 (darg 0 [(4, 0), (0, c)]) [] g3 (g4, none) ∧ (∃ g5, zr sv L n 31 0 (darg 0 [(4, 0), (0, d)]) [] g4 (g5, none) ∧ (∃ g6, zr sv L n 31 0 (darg 0 [(4, 0), (0, e)]) [] g5 (g6, none) ∧ (o = (g6, some (0, g6 0 5))))))))) ∨ (900 < w32 ((g 0 5) + 20) ∧ (o = (g, some (0, (-1))))) := by
  rw [zov h0, zov h1, zov h2, zov h3, zov h4, zov h5] at h
  have h := zm zy_271 h 6 (q := (cond (crel .le (w32 ((g 0 5) + 20)) 900) 15 13, dset (dset (dset (dset (dset (dset lf 5 (0, e)) 4 (0, d)) 3 (0, c)) 2 (0, b)) 1 (0, a)) 0 (4, 0), [], g)) rfl
  dsimp only at h
  rcases zif_le h with ⟨hc1, h⟩ | ⟨hc1, h⟩
  · refine Or.inl ⟨hc1, ?_⟩
    have h := zm zy_271 h 2 (q := (17, dset (dset (dset (dset (dset (dset lf 5 (0, e)) 4 (0, d)) 3 (0, c)) 2 (0, b)) 1 (0, a)) 0 (4, 0), [(0, a), (4, 0)], g)) rfl
    dsimp only at h
    obtain ⟨g2, hk, h⟩ := zcallV zy_271 h rfl rfl zy_31 zk_31
    dsimp only at hk h
    refine ⟨g2, hk, ?_⟩
    have h := zm zy_271 h 2 (q := (22, dset (dset (dset (dset (dset (dset lf 5 (0, e)) 4 (0, d)) 3 (0, c)) 2 (0, b)) 1 (0, a)) 0 (4, 0), [(0, b), (4, 0)], g2)) rfl
    dsimp only at h
    obtain ⟨g3, hk, h⟩ := zcallV zy_271 h rfl rfl zy_31 zk_31
    dsimp only at hk h
    refine ⟨g3, hk, ?_⟩
    have h := zm zy_271 h 2 (q := (27, dset (dset (dset (dset (dset (dset lf 5 (0, e)) 4 (0, d)) 3 (0, c)) 2 (0, b)) 1 (0, a)) 0 (4, 0), [(0, c), (4, 0)], g3)) rfl
    dsimp only at h
    obtain ⟨g4, hk, h⟩ := zcallV zy_271 h rfl rfl zy_31 zk_31
    dsimp only at hk h
    refine ⟨g4, hk, ?_⟩
    have h := zm zy_271 h 2 (q := (33, dset (dset (dset (dset (dset (dset lf 5 (0, e)) 4 (0, d)) 3 (0, c)) 2 (0, b)) 1 (0, a)) 0 (4, 0), [(0, d), (4, 0)], g4)) rfl
    dsimp only at h
    obtain ⟨g5, hk, h⟩ := zcallV zy_271 h rfl rfl zy_31 zk_31
    dsimp only at hk h
    refine ⟨g5, hk, ?_⟩
    have h := zm zy_271 h 2 (q := (39, dset (dset (dset (dset (dset (dset lf 5 (0, e)) 4 (0, d)) 3 (0, c)) 2 (0, b)) 1 (0, a)) 0 (4, 0), [(0, e), (4, 0)], g5)) rfl
    dsimp only at h
    obtain ⟨g6, hk, h⟩ := zcallV zy_271 h rfl rfl zy_31 zk_31
    dsimp only at hk h
    refine ⟨g6, hk, ?_⟩
    have h := zm zy_271 h 2 (q := (46, dset (dset (dset (dset (dset (dset lf 5 (0, e)) 4 (0, d)) 3 (0, c)) 2 (0, b)) 1 (0, a)) 0 (4, 0), [(0, g6 0 5)], g6)) rfl
    dsimp only at h
    exact zret zy_271 h rfl rfl
  · refine Or.inr ⟨hc1, ?_⟩
    have h := zm zy_271 h 1 (q := (14, dset (dset (dset (dset (dset (dset lf 5 (0, e)) 4 (0, d)) 3 (0, c)) 2 (0, b)) 1 (0, a)) 0 (4, 0), [(0, (-1))], g)) rfl
    dsimp only at h
    exact zret zy_271 h rfl rfl
theorem t_word0 {sv : Nat → Int32} {L n : Nat} {lf : dlf} {g : cg} {o : cg × Option cv} {a : Int} (h : zr sv L n 31 0 lf [] g o) (h0 : lf 0 = (4, 0)) (h1 : lf 1 = (0, a)) : ∃ lf'1, lf'1 0 = (4, 0) ∧ lf'1 1 = (0, a) ∧ lf'1 2 = (0, 24) ∧ zr sv L n 31 3 lf'1 [] g o := by
  rw [zov h0, zov h1] at h
  have h := zm zy_31 h 2 (q := (3, dset (dset (dset lf 1 (0, a)) 0 (4, 0)) 2 (0, 24), [], g)) rfl
  dsimp only at h
  exact ⟨_, rfl, rfl, rfl, h⟩
theorem t_word3 {sv : Nat → Int32} {L n : Nat} {lf : dlf} {g : cg} {o : cg × Option cv} {a b : Int} (h : zr sv L (n + 1) 31 3 lf [] g o) (h0 : lf 0 = (4, 0)) (h1 : lf 1 = (0, a)) (h2 : lf 2 = (0, b)) : (b < 0 ∧ (o = (g, none))) ∨ (0 ≤ b ∧ ((900 ≤ g 0 5 ∧ (∃ lf'3, lf'3 0 = (4, 0) ∧ lf'3 1 = (0, a) ∧ lf'3 2 = (0, w32 (b + (-8))) ∧ zr sv L n 31 3 lf'3 [] g o)) ∨ (g 0 5 < 900 ∧ (∃ lf'4, lf'4 0 = (4, 0) ∧ lf'4 1 = (0, a) ∧ lf'4 2 = (0, w32 (b + (-8))) ∧ zr sv L n 31 3 lf'4 [] (cup (cup g 2 ((g 0 5).toNat) ((i32 ((i32 ((i32 a >>> (i32 b &&& 31)).toInt)).toInt8.toInt32.toInt)).toInt8.toInt32.toInt)) 0 5 (w32 ((g 0 5) + 1))) o)))) := by
  rw [zov h0, zov h1, zov h2] at h
  have h := zm1 zy_31 h 1 (q := (cond (crel .lt b 0) 46 7, dset (dset (dset lf 2 (0, b)) 1 (0, a)) 0 (4, 0), [], g)) rfl
  dsimp only at h
  rcases zif_lt h with ⟨hc1, h⟩ | ⟨hc1, h⟩
  · refine Or.inl ⟨hc1, ?_⟩
    exact zret zy_31 h rfl rfl
  · refine Or.inr ⟨hc1, ?_⟩
    have h := zm zy_31 h 4 (q := (cond (crel .ge (g 0 5) 900) 40 17, dset (dset (dset lf 2 (0, b)) 1 (0, a)) 0 (4, 0), [], g)) rfl
    dsimp only at h
    rcases zif_ge h with ⟨hc2, h⟩ | ⟨hc2, h⟩
    · refine Or.inl ⟨hc2, ?_⟩
      have h := zm zy_31 h 2 (q := (3, dset (dset (dset (dset lf 2 (0, b)) 1 (0, a)) 0 (4, 0)) 2 (0, w32 (b + (-8))), [], g)) rfl
      dsimp only at h
      exact ⟨_, rfl, rfl, rfl, h⟩
    · refine Or.inr ⟨hc2, ?_⟩
      have h := zm zy_31 h 8 (q := (29, dset (dset (dset lf 2 (0, b)) 1 (0, a)) 0 (4, 0), [(0, (i32 ((i32 a >>> (i32 b &&& 31)).toInt)).toInt8.toInt32.toInt), (0, g 0 5), (4, 2)], g)) rfl
      dsimp only at h
      have h := zbst zy_31 h rfl
      have h : zr sv L n 31 30 (dset (dset (dset lf 2 (0, b)) 1 (0, a)) 0 (4, 0)) [] (cup g 2 ((g 0 5).toNat) ((i32 ((i32 ((i32 a >>> (i32 b &&& 31)).toInt)).toInt8.toInt32.toInt)).toInt8.toInt32.toInt)) o := h
      have h := zm zy_31 h 8 (q := (3, dset (dset (dset (dset lf 2 (0, b)) 1 (0, a)) 0 (4, 0)) 2 (0, w32 (b + (-8))), [], cup (cup g 2 ((g 0 5).toNat) ((i32 ((i32 ((i32 a >>> (i32 b &&& 31)).toInt)).toInt8.toInt32.toInt)).toInt8.toInt32.toInt)) 0 5 (w32 ((g 0 5) + 1)))) rfl
      dsimp only at h
      exact ⟨_, rfl, rfl, rfl, h⟩
theorem m_feed {sv : Nat → Int32} {L n : Nat} {lf : dlf} {g : cg} {o : cg × Option cv} {a b c d e : Int} (h : zr sv L n 272 0 lf [] g o) (h0 : lf 0 = (4, 253)) (h1 : lf 1 = (0, a)) (h2 : lf 2 = (0, b)) (h3 : lf 3 = (0, c)) (h4 : lf 4 = (0, d)) (h5 : lf 5 = (0, e)) : (w32 ((g 253 10) + 20) ≤ 900 ∧ (∃ g2, zr sv L n 164 0 (darg 0 [(4, 253), (0, a)]) [] g (g2, none) ∧ (∃ g3, zr sv L n 164 0 (darg 0 [(4, 253), (0, b)]) [] g2 (g3, none) ∧ (∃ g4, zr sv L n 164 0 (darg 0 [(4, 253), (0, c)]) [] g3 (g4, none) ∧ (∃ g5, zr sv L n 164 0 (darg 0 [(4, 253), (0, d)]) [] g4 (g5, none) ∧ (∃ g6, zr sv L n 164 0 (darg 0 [(4, 253), (0, e)]) [] g5 (g6, none) ∧ (o = (g6, some (0, g6 253 10))))))))) ∨ (900 < w32 ((g 253 10) + 20) ∧ (o = (g, some (0, (-1))))) := by
  rw [zov h0, zov h1, zov h2, zov h3, zov h4, zov h5] at h
  have h := zm zy_272 h 6 (q := (cond (crel .le (w32 ((g 253 10) + 20)) 900) 15 13, dset (dset (dset (dset (dset (dset lf 5 (0, e)) 4 (0, d)) 3 (0, c)) 2 (0, b)) 1 (0, a)) 0 (4, 253), [], g)) rfl
  dsimp only at h
  rcases zif_le h with ⟨hc1, h⟩ | ⟨hc1, h⟩
  · refine Or.inl ⟨hc1, ?_⟩
    have h := zm zy_272 h 2 (q := (17, dset (dset (dset (dset (dset (dset lf 5 (0, e)) 4 (0, d)) 3 (0, c)) 2 (0, b)) 1 (0, a)) 0 (4, 253), [(0, a), (4, 253)], g)) rfl
    dsimp only at h
    obtain ⟨g2, hk, h⟩ := zcallV zy_272 h rfl rfl zy_164 zk_164
    dsimp only at hk h
    refine ⟨g2, hk, ?_⟩
    have h := zm zy_272 h 2 (q := (22, dset (dset (dset (dset (dset (dset lf 5 (0, e)) 4 (0, d)) 3 (0, c)) 2 (0, b)) 1 (0, a)) 0 (4, 253), [(0, b), (4, 253)], g2)) rfl
    dsimp only at h
    obtain ⟨g3, hk, h⟩ := zcallV zy_272 h rfl rfl zy_164 zk_164
    dsimp only at hk h
    refine ⟨g3, hk, ?_⟩
    have h := zm zy_272 h 2 (q := (27, dset (dset (dset (dset (dset (dset lf 5 (0, e)) 4 (0, d)) 3 (0, c)) 2 (0, b)) 1 (0, a)) 0 (4, 253), [(0, c), (4, 253)], g3)) rfl
    dsimp only at h
    obtain ⟨g4, hk, h⟩ := zcallV zy_272 h rfl rfl zy_164 zk_164
    dsimp only at hk h
    refine ⟨g4, hk, ?_⟩
    have h := zm zy_272 h 2 (q := (33, dset (dset (dset (dset (dset (dset lf 5 (0, e)) 4 (0, d)) 3 (0, c)) 2 (0, b)) 1 (0, a)) 0 (4, 253), [(0, d), (4, 253)], g4)) rfl
    dsimp only at h
    obtain ⟨g5, hk, h⟩ := zcallV zy_272 h rfl rfl zy_164 zk_164
    dsimp only at hk h
    refine ⟨g5, hk, ?_⟩
    have h := zm zy_272 h 2 (q := (39, dset (dset (dset (dset (dset (dset lf 5 (0, e)) 4 (0, d)) 3 (0, c)) 2 (0, b)) 1 (0, a)) 0 (4, 253), [(0, e), (4, 253)], g5)) rfl
    dsimp only at h
    obtain ⟨g6, hk, h⟩ := zcallV zy_272 h rfl rfl zy_164 zk_164
    dsimp only at hk h
    refine ⟨g6, hk, ?_⟩
    have h := zm zy_272 h 2 (q := (46, dset (dset (dset (dset (dset (dset lf 5 (0, e)) 4 (0, d)) 3 (0, c)) 2 (0, b)) 1 (0, a)) 0 (4, 253), [(0, g6 253 10)], g6)) rfl
    dsimp only at h
    exact zret zy_272 h rfl rfl
  · refine Or.inr ⟨hc1, ?_⟩
    have h := zm zy_272 h 1 (q := (14, dset (dset (dset (dset (dset (dset lf 5 (0, e)) 4 (0, d)) 3 (0, c)) 2 (0, b)) 1 (0, a)) 0 (4, 253), [(0, (-1))], g)) rfl
    dsimp only at h
    exact zret zy_272 h rfl rfl
theorem m_word0 {sv : Nat → Int32} {L n : Nat} {lf : dlf} {g : cg} {o : cg × Option cv} {a : Int} (h : zr sv L n 164 0 lf [] g o) (h0 : lf 0 = (4, 253)) (h1 : lf 1 = (0, a)) : ∃ lf'1, lf'1 0 = (4, 253) ∧ lf'1 1 = (0, a) ∧ lf'1 2 = (0, 24) ∧ zr sv L n 164 3 lf'1 [] g o := by
  rw [zov h0, zov h1] at h
  have h := zm zy_164 h 2 (q := (3, dset (dset (dset lf 1 (0, a)) 0 (4, 253)) 2 (0, 24), [], g)) rfl
  dsimp only at h
  exact ⟨_, rfl, rfl, rfl, h⟩
theorem m_word3 {sv : Nat → Int32} {L n : Nat} {lf : dlf} {g : cg} {o : cg × Option cv} {a b : Int} (h : zr sv L (n + 1) 164 3 lf [] g o) (h0 : lf 0 = (4, 253)) (h1 : lf 1 = (0, a)) (h2 : lf 2 = (0, b)) : (b < 0 ∧ (o = (g, none))) ∨ (0 ≤ b ∧ (∃ lf'2, lf'2 0 = (4, 253) ∧ lf'2 1 = (0, a) ∧ lf'2 2 = (0, w32 (b + (-8))) ∧ zr sv L n 164 3 lf'2 [] (cup (cup g 259 ((g 253 10).toNat) ((i32 ((i32 ((i32 a >>> (i32 b &&& 31)).toInt)).toInt8.toInt32.toInt)).toInt8.toInt32.toInt)) 253 10 (w32 ((g 253 10) + 1))) o)) := by
  rw [zov h0, zov h1, zov h2] at h
  have h := zm1 zy_164 h 1 (q := (cond (crel .lt b 0) 36 7, dset (dset (dset lf 2 (0, b)) 1 (0, a)) 0 (4, 253), [], g)) rfl
  dsimp only at h
  rcases zif_lt h with ⟨hc1, h⟩ | ⟨hc1, h⟩
  · refine Or.inl ⟨hc1, ?_⟩
    exact zret zy_164 h rfl rfl
  · refine Or.inr ⟨hc1, ?_⟩
    have h := zm zy_164 h 8 (q := (19, dset (dset (dset lf 2 (0, b)) 1 (0, a)) 0 (4, 253), [(0, (i32 ((i32 a >>> (i32 b &&& 31)).toInt)).toInt8.toInt32.toInt), (0, g 253 10), (4, 259)], g)) rfl
    dsimp only at h
    have h := zbst zy_164 h rfl
    have h : zr sv L n 164 20 (dset (dset (dset lf 2 (0, b)) 1 (0, a)) 0 (4, 253)) [] (cup g 259 ((g 253 10).toNat) ((i32 ((i32 ((i32 a >>> (i32 b &&& 31)).toInt)).toInt8.toInt32.toInt)).toInt8.toInt32.toInt)) o := h
    have h := zm zy_164 h 8 (q := (3, dset (dset (dset (dset lf 2 (0, b)) 1 (0, a)) 0 (4, 253)) 2 (0, w32 (b + (-8))), [], cup (cup g 259 ((g 253 10).toNat) ((i32 ((i32 ((i32 a >>> (i32 b &&& 31)).toInt)).toInt8.toInt32.toInt)).toInt8.toInt32.toInt)) 253 10 (w32 ((g 253 10) + 1)))) rfl
    dsimp only at h
    exact ⟨_, rfl, rfl, rfl, h⟩
end
