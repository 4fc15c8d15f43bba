section
/-! what the reference's reader of a court says: printed by program (wip/tools/zmod.py) -/
section
set_option maxRecDepth 100000
theorem zy_21 : xg xcode 21 = some xt_21 := rfl
theorem zk_21 : zkc 0 xt_21 = true := by decide +kernel
theorem zy_165 : xg xcode 165 = some xt_165 := rfl
theorem zk_165 : zkc 1 xt_165 = true := by decide +kernel
theorem zy_170 : xg xcode 170 = some xt_170 := rfl
theorem zk_170 : zkc 1 xt_170 = true := by decide +kernel
theorem zy_171 : xg xcode 171 = some xt_171 := rfl
theorem zk_171 : zkc 1 xt_171 = true := by decide +kernel
theorem zy_174 : xg xcode 174 = some xt_174 := rfl
theorem zk_174 : zkc 1 xt_174 = true := by decide +kernel
theorem zy_178 : xg xcode 178 = some xt_178 := rfl
theorem zk_178 : zkc 1 xt_178 = true := by decide +kernel
theorem zy_179 : xg xcode 179 = some xt_179 := rfl
theorem zk_179 : zkc 1 xt_179 = true := by decide +kernel
theorem zy_180 : xg xcode 180 = some xt_180 := rfl
theorem zk_180 : zkc 1 xt_180 = true := by decide +kernel
theorem zy_182 : xg xcode 182 = some xt_182 := rfl
theorem zk_182 : zkc 1 xt_182 = true := by decide +kernel
theorem zy_185 : xg xcode 185 = some xt_185 := rfl
theorem zk_185 : zkc 1 xt_185 = true := by decide +kernel
theorem zy_186 : xg xcode 186 = some xt_186 := rfl
theorem zk_186 : zkc 1 xt_186 = true := by decide +kernel
theorem zy_187 : xg xcode 187 = some xt_187 := rfl
theorem zk_187 : zkc 1 xt_187 = true := by decide +kernel
theorem zy_188 : xg xcode 188 = some xt_188 := rfl
theorem zk_188 : zkc 1 xt_188 = true := by decide +kernel
theorem zy_190 : xg xcode 190 = some xt_190 := rfl
theorem zk_190 : zkc 1 xt_190 = true := by decide +kernel
theorem zy_191 : xg xcode 191 = some xt_191 := rfl
theorem zk_191 : zkc 1 xt_191 = true := by decide +kernel
theorem zy_192 : xg xcode 192 = some xt_192 := rfl
theorem zk_192 : zkc 1 xt_192 = true := by decide +kernel
theorem zy_274 : xg xcode 274 = some xt_274 := rfl
theorem zk_274 : zkc 1 xt_274 = true := by decide +kernel
theorem ztab_0_7 {z : Int} : z = 0 ∨ z = 1 ∨ z = 2 ∨ z = 3 ∨ z = 4 ∨ z = 5 ∨ z = 6 ∨ z = 7 ∨ (z < 0 ∨ 7 < z) := by omega
theorem dvb_254 {g : cg} {i : Int} (h0 : 0 ≤ i) (h1 : i < 5208) : dval xh2 g 254 i.toNat = (0, g 254 i.toNat) := dvb (show zck 254 13 5208 = true by decide +kernel) (by decide) h0 h1
theorem dvb_255 {g : cg} {i : Int} (h0 : 0 ≤ i) (h1 : i < 72) : dval xh2 g 255 i.toNat = (2, g 255 i.toNat) := dvbL (show zck 255 14 72 = true by decide +kernel) (by decide) h0 h1
theorem dvb_259 {g : cg} {i : Int} (h0 : 0 ≤ i) (h1 : i < 900) : dval xh2 g 259 i.toNat = (0, g 259 i.toNat) := dvb (show zck 259 15 900 = true by decide +kernel) (by decide) h0 h1
theorem m_find0 {sv : Nat → Int32} {L n : Nat} {lf : dlf} {g : cg} {o : cg × Option cv} {a b : Int} (h : zr sv L n 182 0 lf [] g o) (h0 : lf 0 = (4, 253)) (h1 : lf 1 = (0, a)) (h2 : lf 2 = (0, b)) : ∃ lf'1, lf'1 0 = (4, 253) ∧ lf'1 1 = (0, a) ∧ lf'1 2 = (0, b) ∧ lf'1 3 = (0, 0) ∧ zr sv L n 182 2 lf'1 [] g o := by
  rw [zov h0, zov h1, zov h2] at h
  have h := zm zy_182 h 2 (q := (2, dset (dset (dset (dset lf 2 (0, b)) 1 (0, a)) 0 (4, 253)) 3 (0, 0), [], g)) rfl
  dsimp only at h
  exact ⟨_, rfl, rfl, rfl, rfl, h⟩
theorem m_find2 {sv : Nat → Int32} {L n : Nat} {lf : dlf} {g : cg} {o : cg × Option cv} {a b c : Int} (h : zr sv L (n + 1) 182 2 lf [] g o) (h0 : lf 0 = (4, 253)) (h1 : lf 1 = (0, a)) (h2 : lf 2 = (0, b)) (h3 : lf 3 = (0, c)) : (b ≤ c ∧ (o = (g, some (0, (-1))))) ∨ (c < b ∧ (0 ≤ w32 (a + c) → w32 (a + c) < 72 → (∃ g4 r5, zr sv L n 183 0 (darg 0 [(4, 253)]) [] g (g4, some (2, r5)) ∧ ((csgn ((g 255 ((w32 (a + c)).toNat)) - r5) ≠ 0 ∧ (∃ lf'7, lf'7 0 = (4, 253) ∧ lf'7 1 = (0, a) ∧ lf'7 2 = (0, b) ∧ lf'7 3 = (0, w32 (c + 1)) ∧ zr sv L n 182 2 lf'7 [] g4 o)) ∨ (csgn ((g 255 ((w32 (a + c)).toNat)) - r5) = 0 ∧ (o = (g4, some (0, c)))))))) := by
  rw [zov h0, zov h1, zov h2, zov h3] at h
  have h := zm1 zy_182 h 2 (q := (cond (crel .ge c b) 31 7, dset (dset (dset (dset lf 3 (0, c)) 2 (0, b)) 1 (0, a)) 0 (4, 253), [], g)) rfl
  dsimp only at h
  rcases zif_ge h with ⟨hc1, h⟩ | ⟨hc1, h⟩
  · refine Or.inl ⟨hc1, ?_⟩
    have h := zm zy_182 h 1 (q := (32, dset (dset (dset (dset lf 3 (0, c)) 2 (0, b)) 1 (0, a)) 0 (4, 253), [(0, (-1))], g)) rfl
    dsimp only at h
    exact zret zy_182 h rfl rfl
  · refine Or.inr ⟨hc1, ?_⟩
    intro ha2 hb3
    have h := zm zy_182 h 5 (q := (14, dset (dset (dset (dset lf 3 (0, c)) 2 (0, b)) 1 (0, a)) 0 (4, 253), [(0, w32 (a + c)), (4, 255)], g)) rfl
    dsimp only at h
    have h := zald zy_182 h rfl rfl (dvb_255 ha2 hb3)
    have h : zr sv L n 182 15 (dset (dset (dset (dset lf 3 (0, c)) 2 (0, b)) 1 (0, a)) 0 (4, 253)) [(2, g 255 ((w32 (a + c)).toNat))] (g) o := by first | exact h | (rw [cup_at] at h; exact h)
    have h := zm zy_182 h 1 (q := (16, dset (dset (dset (dset lf 3 (0, c)) 2 (0, b)) 1 (0, a)) 0 (4, 253), [(4, 253), (2, g 255 ((w32 (a + c)).toNat))], g)) rfl
    dsimp only at h
    obtain ⟨g4, r5, hk, h⟩ := zcallL zy_182 h rfl rfl zy_183 zk_183
    dsimp only at hk h
    refine ⟨g4, r5, hk, ?_⟩
    have h := zm zy_182 h 2 (q := (cond (crel .ne (csgn ((g 255 ((w32 (a + c)).toNat)) - r5)) 0) 25 23, dset (dset (dset (dset lf 3 (0, c)) 2 (0, b)) 1 (0, a)) 0 (4, 253), [], g4)) rfl
    dsimp only at h
    rcases zif_ne h with ⟨hc6, h⟩ | ⟨hc6, h⟩
    · refine Or.inl ⟨hc6, ?_⟩
      have h := zm zy_182 h 2 (q := (2, dset (dset (dset (dset (dset lf 3 (0, c)) 2 (0, b)) 1 (0, a)) 0 (4, 253)) 3 (0, w32 (c + 1)), [], g4)) rfl
      dsimp only at h
      exact ⟨_, rfl, rfl, rfl, rfl, h⟩
    · refine Or.inr ⟨hc6, ?_⟩
      have h := zm zy_182 h 1 (q := (24, dset (dset (dset (dset lf 3 (0, c)) 2 (0, b)) 1 (0, a)) 0 (4, 253), [(0, c)], g4)) rfl
      dsimp only at h
      exact zret zy_182 h rfl rfl
theorem m_old {sv : Nat → Int32} {L n : Nat} {lf : dlf} {g : cg} {o : cg × Option cv} {a b c : Int} (h : zr sv L n 180 0 lf [] g o) (h0 : lf 0 = (4, 253)) (h1 : lf 1 = (0, a)) (h2 : lf 2 = (0, b)) (h3 : lf 3 = (0, c)) : ∃ g1 r2, zr sv L n 181 0 (darg 0 [(4, 253), (6, 3)]) [] g (g1, some (0, r2)) ∧ ((r2 ≠ 0 ∧ (∃ g4 r5, zr sv L n 182 0 (darg 0 [(4, 253), (0, a), (0, b)]) [] g1 (g4, some (0, r5)) ∧ (0 ≤ c → c < 5208 → ((r5 ≠ (-1) ∧ (∃ g9, zr sv L n 166 0 (darg 0 [(4, 253)]) [] (cup g4 254 ((c).toNat) r5) (g9, none) ∧ (o = (g9, some (0, 1))))) ∨ (r5 = (-1) ∧ (∃ g10 r11, zr sv L n 173 0 (darg 0 [(4, 253), (0, 3)]) [] (cup g4 254 ((c).toNat) r5) (g10, some (0, r11)) ∧ (o = (g10, some (0, r11))))))))) ∨ (r2 = 0 ∧ (∃ g12 r13, zr sv L n 173 0 (darg 0 [(4, 253), (0, 2)]) [] g1 (g12, some (0, r13)) ∧ (o = (g12, some (0, r13)))))) := by
  rw [zov h0, zov h1, zov h2, zov h3] at h
  have h := zm zy_180 h 2 (q := (3, dset (dset (dset (dset lf 3 (0, c)) 2 (0, b)) 1 (0, a)) 0 (4, 253), [(6, 3), (4, 253)], g)) rfl
  dsimp only at h
  obtain ⟨g1, r2, hk, h⟩ := zcallI zy_180 h rfl rfl zy_181 zk_181
  dsimp only at hk h
  refine ⟨g1, r2, hk, ?_⟩
  have h := zm zy_180 h 1 (q := (cond (crel .ne r2 0) 15 9, dset (dset (dset (dset lf 3 (0, c)) 2 (0, b)) 1 (0, a)) 0 (4, 253), [], g1)) rfl
  dsimp only at h
  rcases zif_ne h with ⟨hc3, h⟩ | ⟨hc3, h⟩
  · refine Or.inl ⟨hc3, ?_⟩
    have h := zm zy_180 h 6 (q := (23, dset (dset (dset (dset lf 3 (0, c)) 2 (0, b)) 1 (0, a)) 0 (4, 253), [(0, b), (0, a), (4, 253), (0, c), (4, 254)], g1)) rfl
    dsimp only at h
    obtain ⟨g4, r5, hk, h⟩ := zcallI zy_180 h rfl rfl zy_182 zk_182
    dsimp only at hk h
    refine ⟨g4, r5, hk, ?_⟩
    intro ha6 hb7
    have h := zm zy_180 h 4 (q := (32, dset (dset (dset (dset lf 3 (0, c)) 2 (0, b)) 1 (0, a)) 0 (4, 253), [(0, c), (4, 254)], cup g4 254 ((c).toNat) r5)) rfl
    dsimp only at h
    have h := zald zy_180 h rfl rfl (dvb_254 ha6 hb7)
    have h : zr sv L n 180 33 (dset (dset (dset (dset lf 3 (0, c)) 2 (0, b)) 1 (0, a)) 0 (4, 253)) [(0, r5)] (cup g4 254 ((c).toNat) r5) o := by first | exact h | (rw [cup_at] at h; exact h)
    have h := zm zy_180 h 2 (q := (cond (crel .ne r5 ((-1))) 43 37, dset (dset (dset (dset lf 3 (0, c)) 2 (0, b)) 1 (0, a)) 0 (4, 253), [], cup g4 254 ((c).toNat) r5)) rfl
    dsimp only at h
    rcases zif_ne h with ⟨hc8, h⟩ | ⟨hc8, h⟩
    · refine Or.inl ⟨hc8, ?_⟩
      have h := zm zy_180 h 1 (q := (44, dset (dset (dset (dset lf 3 (0, c)) 2 (0, b)) 1 (0, a)) 0 (4, 253), [(4, 253)], cup g4 254 ((c).toNat) r5)) rfl
      dsimp only at h
      obtain ⟨g9, hk, h⟩ := zcallV zy_180 h rfl rfl zy_166 zk_166
      dsimp only at hk h
      refine ⟨g9, hk, ?_⟩
      have h := zm zy_180 h 1 (q := (48, dset (dset (dset (dset lf 3 (0, c)) 2 (0, b)) 1 (0, a)) 0 (4, 253), [(0, 1)], g9)) rfl
      dsimp only at h
      exact zret zy_180 h rfl rfl
    · refine Or.inr ⟨hc8, ?_⟩
      have h := zm zy_180 h 2 (q := (39, dset (dset (dset (dset lf 3 (0, c)) 2 (0, b)) 1 (0, a)) 0 (4, 253), [(0, 3), (4, 253)], cup g4 254 ((c).toNat) r5)) rfl
      dsimp only at h
      obtain ⟨g10, r11, hk, h⟩ := zcallI zy_180 h rfl rfl zy_173 zk_173
      dsimp only at hk h
      refine ⟨g10, r11, hk, ?_⟩
      exact zret zy_180 h rfl rfl
  · refine Or.inr ⟨hc3, ?_⟩
    have h := zm zy_180 h 2 (q := (11, dset (dset (dset (dset lf 3 (0, c)) 2 (0, b)) 1 (0, a)) 0 (4, 253), [(0, 2), (4, 253)], g1)) rfl
    dsimp only at h
    obtain ⟨g12, r13, hk, h⟩ := zcallI zy_180 h rfl rfl zy_173 zk_173
    dsimp only at hk h
    refine ⟨g12, r13, hk, ?_⟩
    exact zret zy_180 h rfl rfl
theorem m_newPer {sv : Nat → Int32} {L n : Nat} {lf : dlf} {g : cg} {o : cg × Option cv} {a : Int} (h : zr sv L n 179 0 lf [] g o) (h0 : lf 0 = (4, 253)) (h1 : lf 1 = (0, a)) : ∃ g1 r2, zr sv L n 180 0 (darg 0 [(4, 253), (0, 53), (0, g 254 2977), (0, a)]) [] g (g1, some (0, r2)) ∧ (o = (g1, some (0, r2))) := by
  rw [zov h0, zov h1] at h
  have h := zm zy_179 h 7 (q := (12, dset (dset lf 1 (0, a)) 0 (4, 253), [(0, a), (0, g 254 2977), (0, 53), (4, 253)], g)) rfl
  dsimp only at h
  obtain ⟨g1, r2, hk, h⟩ := zcallI zy_179 h rfl rfl zy_180 zk_180
  dsimp only at hk h
  refine ⟨g1, r2, hk, ?_⟩
  exact zret zy_179 h rfl rfl
theorem m_newPlc {sv : Nat → Int32} {L n : Nat} {lf : dlf} {g : cg} {o : cg × Option cv} (h : zr sv L n 188 0 lf [] g o) (h0 : lf 0 = (4, 253)) (h1 : lf 1 = (0, 0)) (h2 : lf 2 = (0, 5)) (h3 : lf 3 = (0, 0)) : (g 254 2976 ≠ 5 ∧ (∃ g2, zr sv L n 166 0 (darg 0 [(4, 253)]) [] g (g2, none) ∧ (∃ g3 r4, zr sv L n 181 0 (darg 0 [(4, 253), (6, 3)]) [] g2 (g3, some (0, r4)) ∧ ((r4 ≠ 0 ∧ (∃ g6 r7, zr sv L n 182 0 (darg 0 [(4, 253), (0, 48), (0, g3 254 2976)]) [] g3 (g6, some (0, r7)) ∧ ((r7 ≠ (-1) ∧ (∃ g9 r10, zr sv L n 173 0 (darg 0 [(4, 253), (0, 3)]) [] g6 (g9, some (0, r10)) ∧ (o = (g9, some (0, r10))))) ∨ (r7 = (-1) ∧ (∃ g11 r12, zr sv L n 182 0 (darg 0 [(4, 253), (0, 53), (0, g6 254 2977)]) [] g6 (g11, some (0, r12)) ∧ ((r12 = (-1) ∧ (∃ g14 r15, zr sv L n 183 0 (darg 0 [(4, 253)]) [] g11 (g14, some (2, r15)) ∧ (∃ g16, zr sv L n 166 0 (darg 0 [(4, 253)]) [] (cup g14 255 ((w32 (48 + (g11 254 2976))).toNat) r15) (g16, none) ∧ (o = (g16, some (0, 1)))))) ∨ (r12 ≠ (-1) ∧ (∃ g17 r18, zr sv L n 173 0 (darg 0 [(4, 253), (0, 3)]) [] g11 (g17, some (0, r18)) ∧ (o = (g17, some (0, r18))))))))))) ∨ (r4 = 0 ∧ (∃ g19 r20, zr sv L n 173 0 (darg 0 [(4, 253), (0, 2)]) [] g3 (g19, some (0, r20)) ∧ (o = (g19, some (0, r20))))))))) ∨ (g 254 2976 = 5 ∧ (∃ g21 r22, zr sv L n 173 0 (darg 0 [(4, 253), (0, 6)]) [] g (g21, some (0, r22)) ∧ (o = (g21, some (0, r22))))) := by
  rw [zov h0, zov h1, zov h2, zov h3] at h
  have h := zm zy_188 h 8 (q := (cond (crel .ne (g 254 2976) 5) 21 14, dset (dset (dset (dset lf 3 (0, 0)) 2 (0, 5)) 1 (0, 0)) 0 (4, 253), [], g)) rfl
  dsimp only at h
  rcases zif_ne h with ⟨hc1, h⟩ | ⟨hc1, h⟩
  · refine Or.inl ⟨hc1, ?_⟩
    have h := zm zy_188 h 1 (q := (22, dset (dset (dset (dset lf 3 (0, 0)) 2 (0, 5)) 1 (0, 0)) 0 (4, 253), [(4, 253)], g)) rfl
    dsimp only at h
    obtain ⟨g2, hk, h⟩ := zcallV zy_188 h rfl rfl zy_166 zk_166
    dsimp only at hk h
    refine ⟨g2, hk, ?_⟩
    have h := zm zy_188 h 2 (q := (28, dset (dset (dset (dset lf 3 (0, 0)) 2 (0, 5)) 1 (0, 0)) 0 (4, 253), [(6, 3), (4, 253)], g2)) rfl
    dsimp only at h
    obtain ⟨g3, r4, hk, h⟩ := zcallI zy_188 h rfl rfl zy_181 zk_181
    dsimp only at hk h
    refine ⟨g3, r4, hk, ?_⟩
    have h := zm zy_188 h 1 (q := (cond (crel .ne r4 0) 40 34, dset (dset (dset (dset lf 3 (0, 0)) 2 (0, 5)) 1 (0, 0)) 0 (4, 253), [], g3)) rfl
    dsimp only at h
    rcases zif_ne h with ⟨hc5, h⟩ | ⟨hc5, h⟩
    · refine Or.inl ⟨hc5, ?_⟩
      have h := zm zy_188 h 6 (q := (51, dset (dset (dset (dset lf 3 (0, 0)) 2 (0, 5)) 1 (0, 0)) 0 (4, 253), [(0, g3 254 2976), (0, 48), (4, 253)], g3)) rfl
      dsimp only at h
      obtain ⟨g6, r7, hk, h⟩ := zcallI zy_188 h rfl rfl zy_182 zk_182
      dsimp only at hk h
      refine ⟨g6, r7, hk, ?_⟩
      have h := zm zy_188 h 2 (q := (cond (crel .ne r7 ((-1))) 76 58, dset (dset (dset (dset lf 3 (0, 0)) 2 (0, 5)) 1 (0, 0)) 0 (4, 253), [], g6)) rfl
      dsimp only at h
      rcases zif_ne h with ⟨hc8, h⟩ | ⟨hc8, h⟩
      · refine Or.inl ⟨hc8, ?_⟩
        have h := zm zy_188 h 2 (q := (78, dset (dset (dset (dset lf 3 (0, 0)) 2 (0, 5)) 1 (0, 0)) 0 (4, 253), [(0, 3), (4, 253)], g6)) rfl
        dsimp only at h
        obtain ⟨g9, r10, hk, h⟩ := zcallI zy_188 h rfl rfl zy_173 zk_173
        dsimp only at hk h
        refine ⟨g9, r10, hk, ?_⟩
        exact zret zy_188 h rfl rfl
      · refine Or.inr ⟨hc8, ?_⟩
        have h := zm zy_188 h 6 (q := (69, dset (dset (dset (dset lf 3 (0, 0)) 2 (0, 5)) 1 (0, 0)) 0 (4, 253), [(0, g6 254 2977), (0, 53), (4, 253)], g6)) rfl
        dsimp only at h
        obtain ⟨g11, r12, hk, h⟩ := zcallI zy_188 h rfl rfl zy_182 zk_182
        dsimp only at hk h
        refine ⟨g11, r12, hk, ?_⟩
        have h := zm zy_188 h 2 (q := (cond (crel .eq r12 ((-1))) 82 76, dset (dset (dset (dset lf 3 (0, 0)) 2 (0, 5)) 1 (0, 0)) 0 (4, 253), [], g11)) rfl
        dsimp only at h
        rcases zif_eq h with ⟨hc13, h⟩ | ⟨hc13, h⟩
        · refine Or.inl ⟨hc13, ?_⟩
          have h := zm zy_188 h 13 (q := (102, dset (dset (dset (dset lf 3 (0, 0)) 2 (0, 5)) 1 (0, 0)) 0 (4, 253), [(4, 253), (0, w32 (48 + (g11 254 2976))), (4, 255)], g11)) rfl
          dsimp only at h
          obtain ⟨g14, r15, hk, h⟩ := zcallL zy_188 h rfl rfl zy_183 zk_183
          dsimp only at hk h
          refine ⟨g14, r15, hk, ?_⟩
          have h := zm zy_188 h 2 (q := (107, dset (dset (dset (dset lf 3 (0, 0)) 2 (0, 5)) 1 (0, 0)) 0 (4, 253), [(4, 253)], cup g14 255 ((w32 (48 + (g11 254 2976))).toNat) r15)) rfl
          dsimp only at h
          obtain ⟨g16, hk, h⟩ := zcallV zy_188 h rfl rfl zy_166 zk_166
          dsimp only at hk h
          refine ⟨g16, hk, ?_⟩
          have h := zm zy_188 h 1 (q := (111, dset (dset (dset (dset lf 3 (0, 0)) 2 (0, 5)) 1 (0, 0)) 0 (4, 253), [(0, 1)], g16)) rfl
          dsimp only at h
          exact zret zy_188 h rfl rfl
        · refine Or.inr ⟨hc13, ?_⟩
          have h := zm zy_188 h 2 (q := (78, dset (dset (dset (dset lf 3 (0, 0)) 2 (0, 5)) 1 (0, 0)) 0 (4, 253), [(0, 3), (4, 253)], g11)) rfl
          dsimp only at h
          obtain ⟨g17, r18, hk, h⟩ := zcallI zy_188 h rfl rfl zy_173 zk_173
          dsimp only at hk h
          refine ⟨g17, r18, hk, ?_⟩
          exact zret zy_188 h rfl rfl
    · refine Or.inr ⟨hc5, ?_⟩
      have h := zm zy_188 h 2 (q := (36, dset (dset (dset (dset lf 3 (0, 0)) 2 (0, 5)) 1 (0, 0)) 0 (4, 253), [(0, 2), (4, 253)], g3)) rfl
      dsimp only at h
      obtain ⟨g19, r20, hk, h⟩ := zcallI zy_188 h rfl rfl zy_173 zk_173
      dsimp only at hk h
      refine ⟨g19, r20, hk, ?_⟩
      exact zret zy_188 h rfl rfl
  · refine Or.inr ⟨hc1, ?_⟩
    have h := zm zy_188 h 2 (q := (17, dset (dset (dset (dset lf 3 (0, 0)) 2 (0, 5)) 1 (0, 0)) 0 (4, 253), [(0, 6), (4, 253)], g)) rfl
    dsimp only at h
    obtain ⟨g21, r22, hk, h⟩ := zcallI zy_188 h rfl rfl zy_173 zk_173
    dsimp only at hk h
    refine ⟨g21, r22, hk, ?_⟩
    exact zret zy_188 h rfl rfl
theorem m_newPers {sv : Nat → Int32} {L n : Nat} {lf : dlf} {g : cg} {o : cg × Option cv} (h : zr sv L n 188 0 lf [] g o) (h0 : lf 0 = (4, 253)) (h1 : lf 1 = (0, 1)) (h2 : lf 2 = (0, 6)) (h3 : lf 3 = (0, 5)) : (g 254 2977 ≠ 6 ∧ (∃ g2, zr sv L n 166 0 (darg 0 [(4, 253)]) [] g (g2, none) ∧ (∃ g3 r4, zr sv L n 181 0 (darg 0 [(4, 253), (6, 3)]) [] g2 (g3, some (0, r4)) ∧ ((r4 ≠ 0 ∧ (∃ g6 r7, zr sv L n 182 0 (darg 0 [(4, 253), (0, 48), (0, g3 254 2976)]) [] g3 (g6, some (0, r7)) ∧ ((r7 ≠ (-1) ∧ (∃ g9 r10, zr sv L n 173 0 (darg 0 [(4, 253), (0, 3)]) [] g6 (g9, some (0, r10)) ∧ (o = (g9, some (0, r10))))) ∨ (r7 = (-1) ∧ (∃ g11 r12, zr sv L n 182 0 (darg 0 [(4, 253), (0, 53), (0, g6 254 2977)]) [] g6 (g11, some (0, r12)) ∧ ((r12 = (-1) ∧ (∃ g14 r15, zr sv L n 183 0 (darg 0 [(4, 253)]) [] g11 (g14, some (2, r15)) ∧ (∃ g16, zr sv L n 166 0 (darg 0 [(4, 253)]) [] (cup g14 255 ((w32 (53 + (g11 254 2977))).toNat) r15) (g16, none) ∧ (o = (g16, some (0, 1)))))) ∨ (r12 ≠ (-1) ∧ (∃ g17 r18, zr sv L n 173 0 (darg 0 [(4, 253), (0, 3)]) [] g11 (g17, some (0, r18)) ∧ (o = (g17, some (0, r18))))))))))) ∨ (r4 = 0 ∧ (∃ g19 r20, zr sv L n 173 0 (darg 0 [(4, 253), (0, 2)]) [] g3 (g19, some (0, r20)) ∧ (o = (g19, some (0, r20))))))))) ∨ (g 254 2977 = 6 ∧ (∃ g21 r22, zr sv L n 173 0 (darg 0 [(4, 253), (0, 6)]) [] g (g21, some (0, r22)) ∧ (o = (g21, some (0, r22))))) := by
  rw [zov h0, zov h1, zov h2, zov h3] at h
  have h := zm zy_188 h 8 (q := (cond (crel .ne (g 254 2977) 6) 21 14, dset (dset (dset (dset lf 3 (0, 5)) 2 (0, 6)) 1 (0, 1)) 0 (4, 253), [], g)) rfl
  dsimp only at h
  rcases zif_ne h with ⟨hc1, h⟩ | ⟨hc1, h⟩
  · refine Or.inl ⟨hc1, ?_⟩
    have h := zm zy_188 h 1 (q := (22, dset (dset (dset (dset lf 3 (0, 5)) 2 (0, 6)) 1 (0, 1)) 0 (4, 253), [(4, 253)], g)) rfl
    dsimp only at h
    obtain ⟨g2, hk, h⟩ := zcallV zy_188 h rfl rfl zy_166 zk_166
    dsimp only at hk h
    refine ⟨g2, hk, ?_⟩
    have h := zm zy_188 h 2 (q := (28, dset (dset (dset (dset lf 3 (0, 5)) 2 (0, 6)) 1 (0, 1)) 0 (4, 253), [(6, 3), (4, 253)], g2)) rfl
    dsimp only at h
    obtain ⟨g3, r4, hk, h⟩ := zcallI zy_188 h rfl rfl zy_181 zk_181
    dsimp only at hk h
    refine ⟨g3, r4, hk, ?_⟩
    have h := zm zy_188 h 1 (q := (cond (crel .ne r4 0) 40 34, dset (dset (dset (dset lf 3 (0, 5)) 2 (0, 6)) 1 (0, 1)) 0 (4, 253), [], g3)) rfl
    dsimp only at h
    rcases zif_ne h with ⟨hc5, h⟩ | ⟨hc5, h⟩
    · refine Or.inl ⟨hc5, ?_⟩
      have h := zm zy_188 h 6 (q := (51, dset (dset (dset (dset lf 3 (0, 5)) 2 (0, 6)) 1 (0, 1)) 0 (4, 253), [(0, g3 254 2976), (0, 48), (4, 253)], g3)) rfl
      dsimp only at h
      obtain ⟨g6, r7, hk, h⟩ := zcallI zy_188 h rfl rfl zy_182 zk_182
      dsimp only at hk h
      refine ⟨g6, r7, hk, ?_⟩
      have h := zm zy_188 h 2 (q := (cond (crel .ne r7 ((-1))) 76 58, dset (dset (dset (dset lf 3 (0, 5)) 2 (0, 6)) 1 (0, 1)) 0 (4, 253), [], g6)) rfl
      dsimp only at h
      rcases zif_ne h with ⟨hc8, h⟩ | ⟨hc8, h⟩
      · refine Or.inl ⟨hc8, ?_⟩
        have h := zm zy_188 h 2 (q := (78, dset (dset (dset (dset lf 3 (0, 5)) 2 (0, 6)) 1 (0, 1)) 0 (4, 253), [(0, 3), (4, 253)], g6)) rfl
        dsimp only at h
        obtain ⟨g9, r10, hk, h⟩ := zcallI zy_188 h rfl rfl zy_173 zk_173
        dsimp only at hk h
        refine ⟨g9, r10, hk, ?_⟩
        exact zret zy_188 h rfl rfl
      · refine Or.inr ⟨hc8, ?_⟩
        have h := zm zy_188 h 6 (q := (69, dset (dset (dset (dset lf 3 (0, 5)) 2 (0, 6)) 1 (0, 1)) 0 (4, 253), [(0, g6 254 2977), (0, 53), (4, 253)], g6)) rfl
        dsimp only at h
        obtain ⟨g11, r12, hk, h⟩ := zcallI zy_188 h rfl rfl zy_182 zk_182
        dsimp only at hk h
        refine ⟨g11, r12, hk, ?_⟩
        have h := zm zy_188 h 2 (q := (cond (crel .eq r12 ((-1))) 82 76, dset (dset (dset (dset lf 3 (0, 5)) 2 (0, 6)) 1 (0, 1)) 0 (4, 253), [], g11)) rfl
        dsimp only at h
        rcases zif_eq h with ⟨hc13, h⟩ | ⟨hc13, h⟩
        · refine Or.inl ⟨hc13, ?_⟩
          have h := zm zy_188 h 13 (q := (102, dset (dset (dset (dset lf 3 (0, 5)) 2 (0, 6)) 1 (0, 1)) 0 (4, 253), [(4, 253), (0, w32 (53 + (g11 254 2977))), (4, 255)], g11)) rfl
          dsimp only at h
          obtain ⟨g14, r15, hk, h⟩ := zcallL zy_188 h rfl rfl zy_183 zk_183
          dsimp only at hk h
          refine ⟨g14, r15, hk, ?_⟩
          have h := zm zy_188 h 2 (q := (107, dset (dset (dset (dset lf 3 (0, 5)) 2 (0, 6)) 1 (0, 1)) 0 (4, 253), [(4, 253)], cup g14 255 ((w32 (53 + (g11 254 2977))).toNat) r15)) rfl
          dsimp only at h
          obtain ⟨g16, hk, h⟩ := zcallV zy_188 h rfl rfl zy_166 zk_166
          dsimp only at hk h
          refine ⟨g16, hk, ?_⟩
          have h := zm zy_188 h 1 (q := (111, dset (dset (dset (dset lf 3 (0, 5)) 2 (0, 6)) 1 (0, 1)) 0 (4, 253), [(0, 1)], g16)) rfl
          dsimp only at h
          exact zret zy_188 h rfl rfl
        · refine Or.inr ⟨hc13, ?_⟩
          have h := zm zy_188 h 2 (q := (78, dset (dset (dset (dset lf 3 (0, 5)) 2 (0, 6)) 1 (0, 1)) 0 (4, 253), [(0, 3), (4, 253)], g11)) rfl
          dsimp only at h
          obtain ⟨g17, r18, hk, h⟩ := zcallI zy_188 h rfl rfl zy_173 zk_173
          dsimp only at hk h
          refine ⟨g17, r18, hk, ?_⟩
          exact zret zy_188 h rfl rfl
    · refine Or.inr ⟨hc5, ?_⟩
      have h := zm zy_188 h 2 (q := (36, dset (dset (dset (dset lf 3 (0, 5)) 2 (0, 6)) 1 (0, 1)) 0 (4, 253), [(0, 2), (4, 253)], g3)) rfl
      dsimp only at h
      obtain ⟨g19, r20, hk, h⟩ := zcallI zy_188 h rfl rfl zy_173 zk_173
      dsimp only at hk h
      refine ⟨g19, r20, hk, ?_⟩
      exact zret zy_188 h rfl rfl
  · refine Or.inr ⟨hc1, ?_⟩
    have h := zm zy_188 h 2 (q := (17, dset (dset (dset (dset lf 3 (0, 5)) 2 (0, 6)) 1 (0, 1)) 0 (4, 253), [(0, 6), (4, 253)], g)) rfl
    dsimp only at h
    obtain ⟨g21, r22, hk, h⟩ := zcallI zy_188 h rfl rfl zy_173 zk_173
    dsimp only at hk h
    refine ⟨g21, r22, hk, ?_⟩
    exact zret zy_188 h rfl rfl
theorem m_aPlace {sv : Nat → Int32} {L n : Nat} {lf : dlf} {g : cg} {o : cg × Option cv} (h : zr sv L n 190 0 lf [] g o) (h0 : lf 0 = (4, 253)) : ∃ g1 r2, zr sv L n 188 0 (darg 0 [(4, 253), (0, 0), (0, 5), (0, 0)]) [] g (g1, some (0, r2)) ∧ ((r2 = 0 ∧ (o = (g1, some (0, 0)))) ∨ (r2 ≠ 0 ∧ (∃ g4 r5, zr sv L n 184 0 (darg 0 [(4, 253), (6, 3), (0, 8)]) [] g1 (g4, some (0, r5)) ∧ ((r5 = 0 ∧ (o = (g4, some (0, 0)))) ∨ (r5 ≠ 0 ∧ (∃ g7 r8, zr sv L n 175 0 (darg 0 [(4, 253), (0, w32 (2986 + (g4 254 2976))), (0, 0), (0, 60)]) [] g4 (g7, some (0, r8)) ∧ ((r8 ≠ 0 ∧ (o = (cup g7 254 2976 (w32 ((g7 254 2976) + 1)), some (0, 1)))) ∨ (r8 = 0 ∧ (o = (g7, some (0, 0))))))))))) := by
  rw [zov h0] at h
  have h := zm zy_190 h 4 (q := (4, dset lf 0 (4, 253), [(0, 0), (0, 5), (0, 0), (4, 253)], g)) rfl
  dsimp only at h
  obtain ⟨g1, r2, hk, h⟩ := zcallI zy_190 h rfl rfl zy_188 zk_188
  dsimp only at hk h
  refine ⟨g1, r2, hk, ?_⟩
  have h := zm zy_190 h 1 (q := (cond (crel .eq r2 0) 43 10, dset lf 0 (4, 253), [], g1)) rfl
  dsimp only at h
  rcases zif_eq h with ⟨hc3, h⟩ | ⟨hc3, h⟩
  · refine Or.inl ⟨hc3, ?_⟩
    have h := zm zy_190 h 1 (q := (44, dset lf 0 (4, 253), [(0, 0)], g1)) rfl
    dsimp only at h
    exact zret zy_190 h rfl rfl
  · refine Or.inr ⟨hc3, ?_⟩
    have h := zm zy_190 h 3 (q := (15, dset lf 0 (4, 253), [(0, 8), (6, 3), (4, 253)], g1)) rfl
    dsimp only at h
    obtain ⟨g4, r5, hk, h⟩ := zcallI zy_190 h rfl rfl zy_184 zk_184
    dsimp only at hk h
    refine ⟨g4, r5, hk, ?_⟩
    have h := zm zy_190 h 1 (q := (cond (crel .eq r5 0) 43 21, dset lf 0 (4, 253), [], g4)) rfl
    dsimp only at h
    rcases zif_eq h with ⟨hc6, h⟩ | ⟨hc6, h⟩
    · refine Or.inl ⟨hc6, ?_⟩
      have h := zm zy_190 h 1 (q := (44, dset lf 0 (4, 253), [(0, 0)], g4)) rfl
      dsimp only at h
      exact zret zy_190 h rfl rfl
    · refine Or.inr ⟨hc6, ?_⟩
      have h := zm zy_190 h 9 (q := (37, dset lf 0 (4, 253), [(0, 60), (0, 0), (0, w32 (2986 + (g4 254 2976))), (4, 253)], g4)) rfl
      dsimp only at h
      obtain ⟨g7, r8, hk, h⟩ := zcallI zy_190 h rfl rfl zy_175 zk_175
      dsimp only at hk h
      refine ⟨g7, r8, hk, ?_⟩
      have h := zm zy_190 h 1 (q := (cond (crel .ne r8 0) 45 43, dset lf 0 (4, 253), [], g7)) rfl
      dsimp only at h
      rcases zif_ne h with ⟨hc9, h⟩ | ⟨hc9, h⟩
      · refine Or.inl ⟨hc9, ?_⟩
        have h := zm zy_190 h 9 (q := (58, dset lf 0 (4, 253), [(0, 1)], cup g7 254 2976 (w32 ((g7 254 2976) + 1)))) rfl
        dsimp only at h
        exact zret zy_190 h rfl rfl
      · refine Or.inr ⟨hc9, ?_⟩
        have h := zm zy_190 h 1 (q := (44, dset lf 0 (4, 253), [(0, 0)], g7)) rfl
        dsimp only at h
        exact zret zy_190 h rfl rfl
theorem m_aPerson {sv : Nat → Int32} {L n : Nat} {lf : dlf} {g : cg} {o : cg × Option cv} (h : zr sv L n 187 0 lf [] g o) (h0 : lf 0 = (4, 253)) : ∃ g1 r2, zr sv L n 188 0 (darg 0 [(4, 253), (0, 1), (0, 6), (0, 5)]) [] g (g1, some (0, r2)) ∧ ((r2 = 0 ∧ (o = (g1, some (0, 0)))) ∨ (r2 ≠ 0 ∧ (∃ g4 r5, zr sv L n 184 0 (darg 0 [(4, 253), (6, 3), (0, 9)]) [] g1 (g4, some (0, r5)) ∧ ((r5 = 0 ∧ (o = (g4, some (0, 0)))) ∨ (r5 ≠ 0 ∧ (∃ g7 r8, zr sv L n 175 0 (darg 0 [(4, 253), (0, w32 (2991 + (w32 (6 * (g 254 2977))))), (0, 0), (0, 999)]) [] g4 (g7, some (0, r8)) ∧ ((r8 ≠ 0 ∧ (∃ g10 r11, zr sv L n 189 0 (darg 0 [(4, 253), (0, 10)]) [] g7 (g10, some (0, r11)) ∧ ((r11 = 0 ∧ (∃ g13 r14, zr sv L n 189 0 (darg 0 [(4, 253), (0, 11)]) [] (cup g10 254 ((w32 ((w32 (2991 + (w32 (6 * (g 254 2977))))) + 1)).toNat) 0) (g13, some (0, r14)) ∧ ((r14 = 0 ∧ (o = (cup (cup (cup g13 254 ((w32 ((w32 (2991 + (w32 (6 * (g 254 2977))))) + 2)).toNat) 0) 254 ((w32 ((w32 (2991 + (w32 (6 * (g 254 2977))))) + 3)).toNat) ((-1))) 254 2977 (w32 (((cup (cup g13 254 ((w32 ((w32 (2991 + (w32 (6 * (g 254 2977))))) + 2)).toNat) 0) 254 ((w32 ((w32 (2991 + (w32 (6 * (g 254 2977))))) + 3)).toNat) ((-1))) 254 2977) + 1)), some (0, 1)))) ∨ (r14 ≠ 0 ∧ (o = (cup (cup (cup g13 254 ((w32 ((w32 (2991 + (w32 (6 * (g 254 2977))))) + 2)).toNat) 1) 254 ((w32 ((w32 (2991 + (w32 (6 * (g 254 2977))))) + 3)).toNat) ((-1))) 254 2977 (w32 (((cup (cup g13 254 ((w32 ((w32 (2991 + (w32 (6 * (g 254 2977))))) + 2)).toNat) 1) 254 ((w32 ((w32 (2991 + (w32 (6 * (g 254 2977))))) + 3)).toNat) ((-1))) 254 2977) + 1)), some (0, 1))))))) ∨ (r11 ≠ 0 ∧ (∃ g16 r17, zr sv L n 189 0 (darg 0 [(4, 253), (0, 11)]) [] (cup g10 254 ((w32 ((w32 (2991 + (w32 (6 * (g 254 2977))))) + 1)).toNat) 1) (g16, some (0, r17)) ∧ ((r17 = 0 ∧ (o = (cup (cup (cup g16 254 ((w32 ((w32 (2991 + (w32 (6 * (g 254 2977))))) + 2)).toNat) 0) 254 ((w32 ((w32 (2991 + (w32 (6 * (g 254 2977))))) + 3)).toNat) ((-1))) 254 2977 (w32 (((cup (cup g16 254 ((w32 ((w32 (2991 + (w32 (6 * (g 254 2977))))) + 2)).toNat) 0) 254 ((w32 ((w32 (2991 + (w32 (6 * (g 254 2977))))) + 3)).toNat) ((-1))) 254 2977) + 1)), some (0, 1)))) ∨ (r17 ≠ 0 ∧ (o = (cup (cup (cup g16 254 ((w32 ((w32 (2991 + (w32 (6 * (g 254 2977))))) + 2)).toNat) 1) 254 ((w32 ((w32 (2991 + (w32 (6 * (g 254 2977))))) + 3)).toNat) ((-1))) 254 2977 (w32 (((cup (cup g16 254 ((w32 ((w32 (2991 + (w32 (6 * (g 254 2977))))) + 2)).toNat) 1) 254 ((w32 ((w32 (2991 + (w32 (6 * (g 254 2977))))) + 3)).toNat) ((-1))) 254 2977) + 1)), some (0, 1)))))))))) ∨ (r8 = 0 ∧ (o = (g7, some (0, 0))))))))))) := by
  rw [zov h0] at h
  have h := zm zy_187 h 13 (q := (21, dset (dset lf 0 (4, 253)) 1 (0, w32 (2991 + (w32 (6 * (g 254 2977))))), [(0, 5), (0, 6), (0, 1), (4, 253)], g)) rfl
  dsimp only at h
  obtain ⟨g1, r2, hk, h⟩ := zcallI zy_187 h rfl rfl zy_188 zk_188
  dsimp only at hk h
  refine ⟨g1, r2, hk, ?_⟩
  have h := zm zy_187 h 1 (q := (cond (crel .eq r2 0) 50 27, dset (dset lf 0 (4, 253)) 1 (0, w32 (2991 + (w32 (6 * (g 254 2977))))), [], g1)) rfl
  dsimp only at h
  rcases zif_eq h with ⟨hc3, h⟩ | ⟨hc3, h⟩
  · refine Or.inl ⟨hc3, ?_⟩
    have h := zm zy_187 h 1 (q := (51, dset (dset lf 0 (4, 253)) 1 (0, w32 (2991 + (w32 (6 * (g 254 2977))))), [(0, 0)], g1)) rfl
    dsimp only at h
    exact zret zy_187 h rfl rfl
  · refine Or.inr ⟨hc3, ?_⟩
    have h := zm zy_187 h 3 (q := (32, dset (dset lf 0 (4, 253)) 1 (0, w32 (2991 + (w32 (6 * (g 254 2977))))), [(0, 9), (6, 3), (4, 253)], g1)) rfl
    dsimp only at h
    obtain ⟨g4, r5, hk, h⟩ := zcallI zy_187 h rfl rfl zy_184 zk_184
    dsimp only at hk h
    refine ⟨g4, r5, hk, ?_⟩
    have h := zm zy_187 h 1 (q := (cond (crel .eq r5 0) 50 38, dset (dset lf 0 (4, 253)) 1 (0, w32 (2991 + (w32 (6 * (g 254 2977))))), [], g4)) rfl
    dsimp only at h
    rcases zif_eq h with ⟨hc6, h⟩ | ⟨hc6, h⟩
    · refine Or.inl ⟨hc6, ?_⟩
      have h := zm zy_187 h 1 (q := (51, dset (dset lf 0 (4, 253)) 1 (0, w32 (2991 + (w32 (6 * (g 254 2977))))), [(0, 0)], g4)) rfl
      dsimp only at h
      exact zret zy_187 h rfl rfl
    · refine Or.inr ⟨hc6, ?_⟩
      have h := zm zy_187 h 4 (q := (44, dset (dset lf 0 (4, 253)) 1 (0, w32 (2991 + (w32 (6 * (g 254 2977))))), [(0, 999), (0, 0), (0, w32 (2991 + (w32 (6 * (g 254 2977))))), (4, 253)], g4)) rfl
      dsimp only at h
      obtain ⟨g7, r8, hk, h⟩ := zcallI zy_187 h rfl rfl zy_175 zk_175
      dsimp only at hk h
      refine ⟨g7, r8, hk, ?_⟩
      have h := zm zy_187 h 1 (q := (cond (crel .ne r8 0) 52 50, dset (dset lf 0 (4, 253)) 1 (0, w32 (2991 + (w32 (6 * (g 254 2977))))), [], g7)) rfl
      dsimp only at h
      rcases zif_ne h with ⟨hc9, h⟩ | ⟨hc9, h⟩
      · refine Or.inl ⟨hc9, ?_⟩
        have h := zm zy_187 h 7 (q := (62, dset (dset lf 0 (4, 253)) 1 (0, w32 (2991 + (w32 (6 * (g 254 2977))))), [(0, 10), (4, 253), (0, w32 ((w32 (2991 + (w32 (6 * (g 254 2977))))) + 1)), (4, 254)], g7)) rfl
        dsimp only at h
        obtain ⟨g10, r11, hk, h⟩ := zcallI zy_187 h rfl rfl zy_189 zk_189
        dsimp only at hk h
        refine ⟨g10, r11, hk, ?_⟩
        have h := zm zy_187 h 1 (q := (cond (crel .eq r11 0) 72 68, dset (dset lf 0 (4, 253)) 1 (0, w32 (2991 + (w32 (6 * (g 254 2977))))), [(0, w32 ((w32 (2991 + (w32 (6 * (g 254 2977))))) + 1)), (4, 254)], g10)) rfl
        dsimp only at h
        rcases zif_eq h with ⟨hc12, h⟩ | ⟨hc12, h⟩
        · refine Or.inl ⟨hc12, ?_⟩
          have h := zm zy_187 h 9 (q := (84, dset (dset lf 0 (4, 253)) 1 (0, w32 (2991 + (w32 (6 * (g 254 2977))))), [(0, 11), (4, 253), (0, w32 ((w32 (2991 + (w32 (6 * (g 254 2977))))) + 2)), (4, 254)], cup g10 254 ((w32 ((w32 (2991 + (w32 (6 * (g 254 2977))))) + 1)).toNat) 0)) rfl
          dsimp only at h
          obtain ⟨g13, r14, hk, h⟩ := zcallI zy_187 h rfl rfl zy_189 zk_189
          dsimp only at hk h
          refine ⟨g13, r14, hk, ?_⟩
          have h := zm zy_187 h 1 (q := (cond (crel .eq r14 0) 94 90, dset (dset lf 0 (4, 253)) 1 (0, w32 (2991 + (w32 (6 * (g 254 2977))))), [(0, w32 ((w32 (2991 + (w32 (6 * (g 254 2977))))) + 2)), (4, 254)], g13)) rfl
          dsimp only at h
          rcases zif_eq h with ⟨hc15, h⟩ | ⟨hc15, h⟩
          · refine Or.inl ⟨hc15, ?_⟩
            have h := zm zy_187 h 18 (q := (118, dset (dset lf 0 (4, 253)) 1 (0, w32 (2991 + (w32 (6 * (g 254 2977))))), [(0, 1)], cup (cup (cup g13 254 ((w32 ((w32 (2991 + (w32 (6 * (g 254 2977))))) + 2)).toNat) 0) 254 ((w32 ((w32 (2991 + (w32 (6 * (g 254 2977))))) + 3)).toNat) ((-1))) 254 2977 (w32 (((cup (cup g13 254 ((w32 ((w32 (2991 + (w32 (6 * (g 254 2977))))) + 2)).toNat) 0) 254 ((w32 ((w32 (2991 + (w32 (6 * (g 254 2977))))) + 3)).toNat) ((-1))) 254 2977) + 1)))) rfl
            dsimp only at h
            exact zret zy_187 h rfl rfl
          · refine Or.inr ⟨hc15, ?_⟩
            have h := zm zy_187 h 19 (q := (118, dset (dset lf 0 (4, 253)) 1 (0, w32 (2991 + (w32 (6 * (g 254 2977))))), [(0, 1)], cup (cup (cup g13 254 ((w32 ((w32 (2991 + (w32 (6 * (g 254 2977))))) + 2)).toNat) 1) 254 ((w32 ((w32 (2991 + (w32 (6 * (g 254 2977))))) + 3)).toNat) ((-1))) 254 2977 (w32 (((cup (cup g13 254 ((w32 ((w32 (2991 + (w32 (6 * (g 254 2977))))) + 2)).toNat) 1) 254 ((w32 ((w32 (2991 + (w32 (6 * (g 254 2977))))) + 3)).toNat) ((-1))) 254 2977) + 1)))) rfl
            dsimp only at h
            exact zret zy_187 h rfl rfl
        · refine Or.inr ⟨hc12, ?_⟩
          have h := zm zy_187 h 10 (q := (84, dset (dset lf 0 (4, 253)) 1 (0, w32 (2991 + (w32 (6 * (g 254 2977))))), [(0, 11), (4, 253), (0, w32 ((w32 (2991 + (w32 (6 * (g 254 2977))))) + 2)), (4, 254)], cup g10 254 ((w32 ((w32 (2991 + (w32 (6 * (g 254 2977))))) + 1)).toNat) 1)) rfl
          dsimp only at h
          obtain ⟨g16, r17, hk, h⟩ := zcallI zy_187 h rfl rfl zy_189 zk_189
          dsimp only at hk h
          refine ⟨g16, r17, hk, ?_⟩
          have h := zm zy_187 h 1 (q := (cond (crel .eq r17 0) 94 90, dset (dset lf 0 (4, 253)) 1 (0, w32 (2991 + (w32 (6 * (g 254 2977))))), [(0, w32 ((w32 (2991 + (w32 (6 * (g 254 2977))))) + 2)), (4, 254)], g16)) rfl
          dsimp only at h
          rcases zif_eq h with ⟨hc18, h⟩ | ⟨hc18, h⟩
          · refine Or.inl ⟨hc18, ?_⟩
            have h := zm zy_187 h 18 (q := (118, dset (dset lf 0 (4, 253)) 1 (0, w32 (2991 + (w32 (6 * (g 254 2977))))), [(0, 1)], cup (cup (cup g16 254 ((w32 ((w32 (2991 + (w32 (6 * (g 254 2977))))) + 2)).toNat) 0) 254 ((w32 ((w32 (2991 + (w32 (6 * (g 254 2977))))) + 3)).toNat) ((-1))) 254 2977 (w32 (((cup (cup g16 254 ((w32 ((w32 (2991 + (w32 (6 * (g 254 2977))))) + 2)).toNat) 0) 254 ((w32 ((w32 (2991 + (w32 (6 * (g 254 2977))))) + 3)).toNat) ((-1))) 254 2977) + 1)))) rfl
            dsimp only at h
            exact zret zy_187 h rfl rfl
          · refine Or.inr ⟨hc18, ?_⟩
            have h := zm zy_187 h 19 (q := (118, dset (dset lf 0 (4, 253)) 1 (0, w32 (2991 + (w32 (6 * (g 254 2977))))), [(0, 1)], cup (cup (cup g16 254 ((w32 ((w32 (2991 + (w32 (6 * (g 254 2977))))) + 2)).toNat) 1) 254 ((w32 ((w32 (2991 + (w32 (6 * (g 254 2977))))) + 3)).toNat) ((-1))) 254 2977 (w32 (((cup (cup g16 254 ((w32 ((w32 (2991 + (w32 (6 * (g 254 2977))))) + 2)).toNat) 1) 254 ((w32 ((w32 (2991 + (w32 (6 * (g 254 2977))))) + 3)).toNat) ((-1))) 254 2977) + 1)))) rfl
            dsimp only at h
            exact zret zy_187 h rfl rfl
      · refine Or.inr ⟨hc9, ?_⟩
        have h := zm zy_187 h 1 (q := (51, dset (dset lf 0 (4, 253)) 1 (0, w32 (2991 + (w32 (6 * (g 254 2977))))), [(0, 0)], g7)) rfl
        dsimp only at h
        exact zret zy_187 h rfl rfl
theorem m_oneOf {sv : Nat → Int32} {L n : Nat} {lf : dlf} {g : cg} {o : cg × Option cv} {a b c : Int} (h : zr sv L n 186 0 lf [] g o) (h0 : lf 0 = (4, 253)) (h1 : lf 1 = (0, a)) (h2 : lf 2 = (0, b)) (h3 : lf 3 = (0, c)) : ∃ g1 r2, zr sv L n 181 0 (darg 0 [(4, 253), (6, 3)]) [] g (g1, some (0, r2)) ∧ ((r2 = 0 ∧ (∃ lf'4, lf'4 0 = (4, 253) ∧ lf'4 2 = (0, b) ∧ zr sv L n 186 67 lf'4 [] g1 o)) ∨ (r2 ≠ 0 ∧ (∃ g5 r6, zr sv L n 182 0 (darg 0 [(4, 253), (0, 53), (0, g1 254 2977)]) [] g1 (g5, some (0, r6)) ∧ ((r6 = (-1) ∧ (∃ lf'8, lf'8 0 = (4, 253) ∧ lf'8 2 = (0, b) ∧ zr sv L n 186 67 lf'8 [] g5 o)) ∨ (r6 ≠ (-1) ∧ ((r6 = a ∧ (∃ g10 r11, zr sv L n 173 0 (darg 0 [(4, 253), (0, 5)]) [] g5 (g10, some (0, r11)) ∧ (o = (g10, some (0, r11))))) ∨ (r6 ≠ a ∧ ((c = 0 ∧ (∃ lf'13, lf'13 0 = (4, 253) ∧ lf'13 2 = (0, b) ∧ zr sv L n 186 67 lf'13 [] g5 o)) ∨ (c ≠ 0 ∧ (0 ≤ w32 ((w32 (2991 + (w32 (6 * r6)))) + 3) → w32 ((w32 (2991 + (w32 (6 * r6)))) + 3) < 5208 → ((g5 254 ((w32 ((w32 (2991 + (w32 (6 * r6)))) + 3)).toNat) = (-1) ∧ (∃ lf'17, lf'17 0 = (4, 253) ∧ lf'17 2 = (0, b) ∧ zr sv L n 186 67 lf'17 [] g5 o)) ∨ (g5 254 ((w32 ((w32 (2991 + (w32 (6 * r6)))) + 3)).toNat) ≠ (-1) ∧ (∃ g18 r19, zr sv L n 173 0 (darg 0 [(4, 253), (0, 5)]) [] g5 (g18, some (0, r19)) ∧ (o = (g18, some (0, r19)))))))))))))))) := by
  rw [zov h0, zov h1, zov h2, zov h3] at h
  have h := zm zy_186 h 2 (q := (3, dset (dset (dset (dset lf 3 (0, c)) 2 (0, b)) 1 (0, a)) 0 (4, 253), [(6, 3), (4, 253)], g)) rfl
  dsimp only at h
  obtain ⟨g1, r2, hk, h⟩ := zcallI zy_186 h rfl rfl zy_181 zk_181
  dsimp only at hk h
  refine ⟨g1, r2, hk, ?_⟩
  have h := zm zy_186 h 1 (q := (cond (crel .eq r2 0) 67 9, dset (dset (dset (dset lf 3 (0, c)) 2 (0, b)) 1 (0, a)) 0 (4, 253), [], g1)) rfl
  dsimp only at h
  rcases zif_eq h with ⟨hc3, h⟩ | ⟨hc3, h⟩
  · refine Or.inl ⟨hc3, ?_⟩
    exact ⟨_, rfl, rfl, h⟩
  · refine Or.inr ⟨hc3, ?_⟩
    have h := zm zy_186 h 6 (q := (20, dset (dset (dset (dset lf 3 (0, c)) 2 (0, b)) 1 (0, a)) 0 (4, 253), [(0, g1 254 2977), (0, 53), (4, 253)], g1)) rfl
    dsimp only at h
    obtain ⟨g5, r6, hk, h⟩ := zcallI zy_186 h rfl rfl zy_182 zk_182
    dsimp only at hk h
    refine ⟨g5, r6, hk, ?_⟩
    have h := zm zy_186 h 4 (q := (cond (crel .eq r6 ((-1))) 67 31, dset (dset (dset (dset (dset lf 3 (0, c)) 2 (0, b)) 1 (0, a)) 0 (4, 253)) 4 (0, r6), [], g5)) rfl
    dsimp only at h
    rcases zif_eq h with ⟨hc7, h⟩ | ⟨hc7, h⟩
    · refine Or.inl ⟨hc7, ?_⟩
      exact ⟨_, rfl, rfl, h⟩
    · refine Or.inr ⟨hc7, ?_⟩
      have h := zm zy_186 h 3 (q := (cond (crel .eq r6 a) 61 37, dset (dset (dset (dset (dset lf 3 (0, c)) 2 (0, b)) 1 (0, a)) 0 (4, 253)) 4 (0, r6), [], g5)) rfl
      dsimp only at h
      rcases zif_eq h with ⟨hc9, h⟩ | ⟨hc9, h⟩
      · refine Or.inl ⟨hc9, ?_⟩
        have h := zm zy_186 h 2 (q := (63, dset (dset (dset (dset (dset lf 3 (0, c)) 2 (0, b)) 1 (0, a)) 0 (4, 253)) 4 (0, r6), [(0, 5), (4, 253)], g5)) rfl
        dsimp only at h
        obtain ⟨g10, r11, hk, h⟩ := zcallI zy_186 h rfl rfl zy_173 zk_173
        dsimp only at hk h
        refine ⟨g10, r11, hk, ?_⟩
        exact zret zy_186 h rfl rfl
      · refine Or.inr ⟨hc9, ?_⟩
        have h := zm zy_186 h 2 (q := (cond (crel .eq c 0) 67 41, dset (dset (dset (dset (dset lf 3 (0, c)) 2 (0, b)) 1 (0, a)) 0 (4, 253)) 4 (0, r6), [], g5)) rfl
        dsimp only at h
        rcases zif_eq h with ⟨hc12, h⟩ | ⟨hc12, h⟩
        · refine Or.inl ⟨hc12, ?_⟩
          exact ⟨_, rfl, rfl, h⟩
        · refine Or.inr ⟨hc12, ?_⟩
          intro ha14 hb15
          have h := zm zy_186 h 9 (q := (56, dset (dset (dset (dset (dset lf 3 (0, c)) 2 (0, b)) 1 (0, a)) 0 (4, 253)) 4 (0, r6), [(0, w32 ((w32 (2991 + (w32 (6 * r6)))) + 3)), (4, 254)], g5)) rfl
          dsimp only at h
          have h := zald zy_186 h rfl rfl (dvb_254 ha14 hb15)
          have h : zr sv L n 186 57 (dset (dset (dset (dset (dset lf 3 (0, c)) 2 (0, b)) 1 (0, a)) 0 (4, 253)) 4 (0, r6)) [(0, g5 254 ((w32 ((w32 (2991 + (w32 (6 * r6)))) + 3)).toNat))] (g5) o := by first | exact h | (rw [cup_at] at h; exact h)
          have h := zm zy_186 h 2 (q := (cond (crel .eq (g5 254 ((w32 ((w32 (2991 + (w32 (6 * r6)))) + 3)).toNat)) ((-1))) 67 61, dset (dset (dset (dset (dset lf 3 (0, c)) 2 (0, b)) 1 (0, a)) 0 (4, 253)) 4 (0, r6), [], g5)) rfl
          dsimp only at h
          rcases zif_eq h with ⟨hc16, h⟩ | ⟨hc16, h⟩
          · refine Or.inl ⟨hc16, ?_⟩
            exact ⟨_, rfl, rfl, h⟩
          · refine Or.inr ⟨hc16, ?_⟩
            have h := zm zy_186 h 2 (q := (63, dset (dset (dset (dset (dset lf 3 (0, c)) 2 (0, b)) 1 (0, a)) 0 (4, 253)) 4 (0, r6), [(0, 5), (4, 253)], g5)) rfl
            dsimp only at h
            obtain ⟨g18, r19, hk, h⟩ := zcallI zy_186 h rfl rfl zy_173 zk_173
            dsimp only at hk h
            refine ⟨g18, r19, hk, ?_⟩
            exact zret zy_186 h rfl rfl
theorem m_oneOf67 {sv : Nat → Int32} {L n : Nat} {lf : dlf} {g : cg} {o : cg × Option cv} {b : Int} (h : zr sv L n 186 67 lf [] g o) (h0 : lf 0 = (4, 253)) (h2 : lf 2 = (0, b)) : ∃ g1 r2, zr sv L n 179 0 (darg 0 [(4, 253), (0, b)]) [] g (g1, some (0, r2)) ∧ (o = (g1, some (0, r2))) := by
  rw [zov h0, zov h2] at h
  have h := zm zy_186 h 2 (q := (69, dset (dset lf 2 (0, b)) 0 (4, 253), [(0, b), (4, 253)], g)) rfl
  dsimp only at h
  obtain ⟨g1, r2, hk, h⟩ := zcallI zy_186 h rfl rfl zy_179 zk_179
  dsimp only at hk h
  refine ⟨g1, r2, hk, ?_⟩
  exact zret zy_186 h rfl rfl
theorem m_twins {sv : Nat → Int32} {L n : Nat} {lf : dlf} {g : cg} {o : cg × Option cv} (h : zr sv L n 185 0 lf [] g o) (h0 : lf 0 = (4, 253)) (h1 : lf 1 = (0, 1)) : ∃ g1, zr sv L n 166 0 (darg 0 [(4, 253)]) [] g (g1, none) ∧ (∃ g2 r3, zr sv L n 186 0 (darg 0 [(4, 253), (0, (-1)), (0, 3716), (0, 1)]) [] g1 (g2, some (0, r3)) ∧ ((r3 = 0 ∧ (o = (g2, some (0, 0)))) ∨ (r3 ≠ 0 ∧ (∃ g5 r6, zr sv L n 186 0 (darg 0 [(4, 253), (0, g2 254 3716), (0, 3717), (0, 1)]) [] g2 (g5, some (0, r6)) ∧ ((r6 ≠ 0 ∧ (o = (cup (cup g5 254 ((w32 ((w32 (2991 + (w32 (6 * (g5 254 3716))))) + 3)).toNat) (g5 254 3717)) 254 ((w32 ((w32 (2991 + (w32 (6 * (g5 254 3717))))) + 3)).toNat) ((cup g5 254 ((w32 ((w32 (2991 + (w32 (6 * (g5 254 3716))))) + 3)).toNat) (g5 254 3717)) 254 3716), some (0, 1)))) ∨ (r6 = 0 ∧ (o = (g5, some (0, 0))))))))) := by
  rw [zov h0, zov h1] at h
  have h := zm zy_185 h 3 (q := (5, dset (dset (dset lf 1 (0, 1)) 0 (4, 253)) 2 (0, 3716), [(4, 253)], g)) rfl
  dsimp only at h
  obtain ⟨g1, hk, h⟩ := zcallV zy_185 h rfl rfl zy_166 zk_166
  dsimp only at hk h
  refine ⟨g1, hk, ?_⟩
  have h := zm zy_185 h 4 (q := (12, dset (dset (dset lf 1 (0, 1)) 0 (4, 253)) 2 (0, 3716), [(0, 1), (0, 3716), (0, (-1)), (4, 253)], g1)) rfl
  dsimp only at h
  obtain ⟨g2, r3, hk, h⟩ := zcallI zy_185 h rfl rfl zy_186 zk_186
  dsimp only at hk h
  refine ⟨g2, r3, hk, ?_⟩
  have h := zm zy_185 h 1 (q := (cond (crel .eq r3 0) 35 18, dset (dset (dset lf 1 (0, 1)) 0 (4, 253)) 2 (0, 3716), [], g2)) rfl
  dsimp only at h
  rcases zif_eq h with ⟨hc4, h⟩ | ⟨hc4, h⟩
  · refine Or.inl ⟨hc4, ?_⟩
    have h := zm zy_185 h 1 (q := (36, dset (dset (dset lf 1 (0, 1)) 0 (4, 253)) 2 (0, 3716), [(0, 0)], g2)) rfl
    dsimp only at h
    exact zret zy_185 h rfl rfl
  · refine Or.inr ⟨hc4, ?_⟩
    have h := zm zy_185 h 9 (q := (29, dset (dset (dset lf 1 (0, 1)) 0 (4, 253)) 2 (0, 3716), [(0, 1), (0, 3717), (0, g2 254 3716), (4, 253)], g2)) rfl
    dsimp only at h
    obtain ⟨g5, r6, hk, h⟩ := zcallI zy_185 h rfl rfl zy_186 zk_186
    dsimp only at hk h
    refine ⟨g5, r6, hk, ?_⟩
    have h := zm zy_185 h 1 (q := (cond (crel .ne r6 0) 37 35, dset (dset (dset lf 1 (0, 1)) 0 (4, 253)) 2 (0, 3716), [], g5)) rfl
    dsimp only at h
    rcases zif_ne h with ⟨hc7, h⟩ | ⟨hc7, h⟩
    · refine Or.inl ⟨hc7, ?_⟩
      have h := zm zy_185 h 46 (q := (148, dset (dset (dset (dset (dset lf 1 (0, 1)) 0 (4, 253)) 2 (0, 3716)) 3 (0, w32 (2991 + (w32 (6 * (g5 254 3716)))))) 4 (0, w32 (2991 + (w32 (6 * (g5 254 3717))))), [(0, 1)], cup (cup g5 254 ((w32 ((w32 (2991 + (w32 (6 * (g5 254 3716))))) + 3)).toNat) (g5 254 3717)) 254 ((w32 ((w32 (2991 + (w32 (6 * (g5 254 3717))))) + 3)).toNat) ((cup g5 254 ((w32 ((w32 (2991 + (w32 (6 * (g5 254 3716))))) + 3)).toNat) (g5 254 3717)) 254 3716))) rfl
      dsimp only at h
      exact zret zy_185 h rfl rfl
    · refine Or.inr ⟨hc7, ?_⟩
      have h := zm zy_185 h 1 (q := (36, dset (dset (dset lf 1 (0, 1)) 0 (4, 253)) 2 (0, 3716), [(0, 0)], g5)) rfl
      dsimp only at h
      exact zret zy_185 h rfl rfl
theorem m_knows {sv : Nat → Int32} {L n : Nat} {lf : dlf} {g : cg} {o : cg × Option cv} (h : zr sv L n 185 0 lf [] g o) (h0 : lf 0 = (4, 253)) (h1 : lf 1 = (0, 0)) : ∃ g1, zr sv L n 166 0 (darg 0 [(4, 253)]) [] g (g1, none) ∧ (∃ g2 r3, zr sv L n 186 0 (darg 0 [(4, 253), (0, (-1)), (0, 3716), (0, 0)]) [] g1 (g2, some (0, r3)) ∧ ((r3 = 0 ∧ (o = (g2, some (0, 0)))) ∨ (r3 ≠ 0 ∧ (∃ g5 r6, zr sv L n 186 0 (darg 0 [(4, 253), (0, g2 254 3716), (0, 3717), (0, 0)]) [] g2 (g5, some (0, r6)) ∧ ((r6 ≠ 0 ∧ (0 ≤ w32 ((w32 (2991 + (w32 (6 * (g5 254 3716))))) + 4) → w32 ((w32 (2991 + (w32 (6 * (g5 254 3716))))) + 4) < 5208 → (0 ≤ w32 ((w32 (2991 + (w32 (6 * (g5 254 3717))))) + 4) → w32 ((w32 (2991 + (w32 (6 * (g5 254 3717))))) + 4) < 5208 → (o = (cup (cup g5 254 ((w32 ((w32 (2991 + (w32 (6 * (g5 254 3716))))) + 4)).toNat) ((i32 (g5 254 ((w32 ((w32 (2991 + (w32 (6 * (g5 254 3716))))) + 4)).toNat)) ||| i32 ((i32 1 <<< (i32 (g5 254 3717) &&& 31)).toInt)).toInt)) 254 ((w32 ((w32 (2991 + (w32 (6 * (g5 254 3717))))) + 4)).toNat) ((i32 ((cup g5 254 ((w32 ((w32 (2991 + (w32 (6 * (g5 254 3716))))) + 4)).toNat) ((i32 (g5 254 ((w32 ((w32 (2991 + (w32 (6 * (g5 254 3716))))) + 4)).toNat)) ||| i32 ((i32 1 <<< (i32 (g5 254 3717) &&& 31)).toInt)).toInt)) 254 ((w32 ((w32 (2991 + (w32 (6 * (g5 254 3717))))) + 4)).toNat)) ||| i32 ((i32 1 <<< (i32 ((cup g5 254 ((w32 ((w32 (2991 + (w32 (6 * (g5 254 3716))))) + 4)).toNat) ((i32 (g5 254 ((w32 ((w32 (2991 + (w32 (6 * (g5 254 3716))))) + 4)).toNat)) ||| i32 ((i32 1 <<< (i32 (g5 254 3717) &&& 31)).toInt)).toInt)) 254 3716) &&& 31)).toInt)).toInt), some (0, 1)))))) ∨ (r6 = 0 ∧ (o = (g5, some (0, 0))))))))) := by
  rw [zov h0, zov h1] at h
  have h := zm zy_185 h 3 (q := (5, dset (dset (dset lf 1 (0, 0)) 0 (4, 253)) 2 (0, 3716), [(4, 253)], g)) rfl
  dsimp only at h
  obtain ⟨g1, hk, h⟩ := zcallV zy_185 h rfl rfl zy_166 zk_166
  dsimp only at hk h
  refine ⟨g1, hk, ?_⟩
  have h := zm zy_185 h 4 (q := (12, dset (dset (dset lf 1 (0, 0)) 0 (4, 253)) 2 (0, 3716), [(0, 0), (0, 3716), (0, (-1)), (4, 253)], g1)) rfl
  dsimp only at h
  obtain ⟨g2, r3, hk, h⟩ := zcallI zy_185 h rfl rfl zy_186 zk_186
  dsimp only at hk h
  refine ⟨g2, r3, hk, ?_⟩
  have h := zm zy_185 h 1 (q := (cond (crel .eq r3 0) 35 18, dset (dset (dset lf 1 (0, 0)) 0 (4, 253)) 2 (0, 3716), [], g2)) rfl
  dsimp only at h
  rcases zif_eq h with ⟨hc4, h⟩ | ⟨hc4, h⟩
  · refine Or.inl ⟨hc4, ?_⟩
    have h := zm zy_185 h 1 (q := (36, dset (dset (dset lf 1 (0, 0)) 0 (4, 253)) 2 (0, 3716), [(0, 0)], g2)) rfl
    dsimp only at h
    exact zret zy_185 h rfl rfl
  · refine Or.inr ⟨hc4, ?_⟩
    have h := zm zy_185 h 9 (q := (29, dset (dset (dset lf 1 (0, 0)) 0 (4, 253)) 2 (0, 3716), [(0, 0), (0, 3717), (0, g2 254 3716), (4, 253)], g2)) rfl
    dsimp only at h
    obtain ⟨g5, r6, hk, h⟩ := zcallI zy_185 h rfl rfl zy_186 zk_186
    dsimp only at hk h
    refine ⟨g5, r6, hk, ?_⟩
    have h := zm zy_185 h 1 (q := (cond (crel .ne r6 0) 37 35, dset (dset (dset lf 1 (0, 0)) 0 (4, 253)) 2 (0, 3716), [], g5)) rfl
    dsimp only at h
    rcases zif_ne h with ⟨hc7, h⟩ | ⟨hc7, h⟩
    · refine Or.inl ⟨hc7, ?_⟩
      intro ha8 hb9
      have h := zm zy_185 h 28 (q := (114, dset (dset (dset (dset (dset lf 1 (0, 0)) 0 (4, 253)) 2 (0, 3716)) 3 (0, w32 (2991 + (w32 (6 * (g5 254 3716)))))) 4 (0, w32 (2991 + (w32 (6 * (g5 254 3717))))), [(0, w32 ((w32 (2991 + (w32 (6 * (g5 254 3716))))) + 4)), (4, 254), (0, w32 ((w32 (2991 + (w32 (6 * (g5 254 3716))))) + 4)), (4, 254)], g5)) rfl
      dsimp only at h
      have h := zald zy_185 h rfl rfl (dvb_254 ha8 hb9)
      have h : zr sv L n 185 115 (dset (dset (dset (dset (dset lf 1 (0, 0)) 0 (4, 253)) 2 (0, 3716)) 3 (0, w32 (2991 + (w32 (6 * (g5 254 3716)))))) 4 (0, w32 (2991 + (w32 (6 * (g5 254 3717)))))) [(0, g5 254 ((w32 ((w32 (2991 + (w32 (6 * (g5 254 3716))))) + 4)).toNat)), (0, w32 ((w32 (2991 + (w32 (6 * (g5 254 3716))))) + 4)), (4, 254)] (g5) o := by first | exact h | (rw [cup_at] at h; exact h)
      intro ha10 hb11
      have h := zm zy_185 h 16 (q := (136, dset (dset (dset (dset (dset lf 1 (0, 0)) 0 (4, 253)) 2 (0, 3716)) 3 (0, w32 (2991 + (w32 (6 * (g5 254 3716)))))) 4 (0, w32 (2991 + (w32 (6 * (g5 254 3717))))), [(0, w32 ((w32 (2991 + (w32 (6 * (g5 254 3717))))) + 4)), (4, 254), (0, w32 ((w32 (2991 + (w32 (6 * (g5 254 3717))))) + 4)), (4, 254)], cup g5 254 ((w32 ((w32 (2991 + (w32 (6 * (g5 254 3716))))) + 4)).toNat) ((i32 (g5 254 ((w32 ((w32 (2991 + (w32 (6 * (g5 254 3716))))) + 4)).toNat)) ||| i32 ((i32 1 <<< (i32 (g5 254 3717) &&& 31)).toInt)).toInt))) rfl
      dsimp only at h
      have h := zald zy_185 h rfl rfl (dvb_254 ha10 hb11)
      have h : zr sv L n 185 137 (dset (dset (dset (dset (dset lf 1 (0, 0)) 0 (4, 253)) 2 (0, 3716)) 3 (0, w32 (2991 + (w32 (6 * (g5 254 3716)))))) 4 (0, w32 (2991 + (w32 (6 * (g5 254 3717)))))) [(0, (cup g5 254 ((w32 ((w32 (2991 + (w32 (6 * (g5 254 3716))))) + 4)).toNat) ((i32 (g5 254 ((w32 ((w32 (2991 + (w32 (6 * (g5 254 3716))))) + 4)).toNat)) ||| i32 ((i32 1 <<< (i32 (g5 254 3717) &&& 31)).toInt)).toInt)) 254 ((w32 ((w32 (2991 + (w32 (6 * (g5 254 3717))))) + 4)).toNat)), (0, w32 ((w32 (2991 + (w32 (6 * (g5 254 3717))))) + 4)), (4, 254)] (cup g5 254 ((w32 ((w32 (2991 + (w32 (6 * (g5 254 3716))))) + 4)).toNat) ((i32 (g5 254 ((w32 ((w32 (2991 + (w32 (6 * (g5 254 3716))))) + 4)).toNat)) ||| i32 ((i32 1 <<< (i32 (g5 254 3717) &&& 31)).toInt)).toInt)) o := by first | exact h | (rw [cup_at] at h; exact h)
      have h := zm zy_185 h 9 (q := (148, dset (dset (dset (dset (dset lf 1 (0, 0)) 0 (4, 253)) 2 (0, 3716)) 3 (0, w32 (2991 + (w32 (6 * (g5 254 3716)))))) 4 (0, w32 (2991 + (w32 (6 * (g5 254 3717))))), [(0, 1)], cup (cup g5 254 ((w32 ((w32 (2991 + (w32 (6 * (g5 254 3716))))) + 4)).toNat) ((i32 (g5 254 ((w32 ((w32 (2991 + (w32 (6 * (g5 254 3716))))) + 4)).toNat)) ||| i32 ((i32 1 <<< (i32 (g5 254 3717) &&& 31)).toInt)).toInt)) 254 ((w32 ((w32 (2991 + (w32 (6 * (g5 254 3717))))) + 4)).toNat) ((i32 ((cup g5 254 ((w32 ((w32 (2991 + (w32 (6 * (g5 254 3716))))) + 4)).toNat) ((i32 (g5 254 ((w32 ((w32 (2991 + (w32 (6 * (g5 254 3716))))) + 4)).toNat)) ||| i32 ((i32 1 <<< (i32 (g5 254 3717) &&& 31)).toInt)).toInt)) 254 ((w32 ((w32 (2991 + (w32 (6 * (g5 254 3717))))) + 4)).toNat)) ||| i32 ((i32 1 <<< (i32 ((cup g5 254 ((w32 ((w32 (2991 + (w32 (6 * (g5 254 3716))))) + 4)).toNat) ((i32 (g5 254 ((w32 ((w32 (2991 + (w32 (6 * (g5 254 3716))))) + 4)).toNat)) ||| i32 ((i32 1 <<< (i32 (g5 254 3717) &&& 31)).toInt)).toInt)) 254 3716) &&& 31)).toInt)).toInt))) rfl
      dsimp only at h
      exact zret zy_185 h rfl rfl
    · refine Or.inr ⟨hc7, ?_⟩
      have h := zm zy_185 h 1 (q := (36, dset (dset (dset lf 1 (0, 0)) 0 (4, 253)) 2 (0, 3716), [(0, 0)], g5)) rfl
      dsimp only at h
      exact zret zy_185 h rfl rfl
theorem m_aTruth {sv : Nat → Int32} {L n : Nat} {lf : dlf} {g : cg} {o : cg × Option cv} (h : zr sv L n 178 0 lf [] g o) (h0 : lf 0 = (4, 253)) : ∃ g1, zr sv L n 166 0 (darg 0 [(4, 253)]) [] g (g1, none) ∧ (∃ g2 r3, zr sv L n 179 0 (darg 0 [(4, 253), (0, 3716)]) [] g1 (g2, some (0, r3)) ∧ ((r3 = 0 ∧ (o = (g2, some (0, 0)))) ∨ (r3 ≠ 0 ∧ (∃ g5 r6, zr sv L n 184 0 (darg 0 [(4, 253), (6, 3), (0, 12)]) [] g2 (g5, some (0, r6)) ∧ ((r6 = 0 ∧ (o = (g5, some (0, 0)))) ∨ (r6 ≠ 0 ∧ (∃ g8 r9, zr sv L n 180 0 (darg 0 [(4, 253), (0, 48), (0, g5 254 2976), (0, 3717)]) [] g5 (g8, some (0, r9)) ∧ ((r9 = 0 ∧ (o = (g8, some (0, 0)))) ∨ (r9 ≠ 0 ∧ (∃ g11 r12, zr sv L n 184 0 (darg 0 [(4, 253), (6, 3), (0, 13)]) [] g8 (g11, some (0, r12)) ∧ ((r12 = 0 ∧ (o = (g11, some (0, 0)))) ∨ (r12 ≠ 0 ∧ (∃ g14 r15, zr sv L n 175 0 (darg 0 [(4, 253), (0, 3718), (0, 0), (0, 7)]) [] g11 (g14, some (0, r15)) ∧ ((r15 ≠ 0 ∧ (o = (cup g14 254 ((w32 ((w32 (3027 + (w32 (8 * (g14 254 3716))))) + (g14 254 3718))).toNat) (g14 254 3717), some (0, 1)))) ∨ (r15 = 0 ∧ (o = (g14, some (0, 0)))))))))))))))))) := by
  rw [zov h0] at h
  have h := zm zy_178 h 3 (q := (5, dset (dset lf 0 (4, 253)) 1 (0, 3716), [(4, 253)], g)) rfl
  dsimp only at h
  obtain ⟨g1, hk, h⟩ := zcallV zy_178 h rfl rfl zy_166 zk_166
  dsimp only at hk h
  refine ⟨g1, hk, ?_⟩
  have h := zm zy_178 h 2 (q := (10, dset (dset lf 0 (4, 253)) 1 (0, 3716), [(0, 3716), (4, 253)], g1)) rfl
  dsimp only at h
  obtain ⟨g2, r3, hk, h⟩ := zcallI zy_178 h rfl rfl zy_179 zk_179
  dsimp only at hk h
  refine ⟨g2, r3, hk, ?_⟩
  have h := zm zy_178 h 1 (q := (cond (crel .eq r3 0) 71 16, dset (dset lf 0 (4, 253)) 1 (0, 3716), [], g2)) rfl
  dsimp only at h
  rcases zif_eq h with ⟨hc4, h⟩ | ⟨hc4, h⟩
  · refine Or.inl ⟨hc4, ?_⟩
    have h := zm zy_178 h 1 (q := (72, dset (dset lf 0 (4, 253)) 1 (0, 3716), [(0, 0)], g2)) rfl
    dsimp only at h
    exact zret zy_178 h rfl rfl
  · refine Or.inr ⟨hc4, ?_⟩
    have h := zm zy_178 h 3 (q := (21, dset (dset lf 0 (4, 253)) 1 (0, 3716), [(0, 12), (6, 3), (4, 253)], g2)) rfl
    dsimp only at h
    obtain ⟨g5, r6, hk, h⟩ := zcallI zy_178 h rfl rfl zy_184 zk_184
    dsimp only at hk h
    refine ⟨g5, r6, hk, ?_⟩
    have h := zm zy_178 h 1 (q := (cond (crel .eq r6 0) 71 27, dset (dset lf 0 (4, 253)) 1 (0, 3716), [], g5)) rfl
    dsimp only at h
    rcases zif_eq h with ⟨hc7, h⟩ | ⟨hc7, h⟩
    · refine Or.inl ⟨hc7, ?_⟩
      have h := zm zy_178 h 1 (q := (72, dset (dset lf 0 (4, 253)) 1 (0, 3716), [(0, 0)], g5)) rfl
      dsimp only at h
      exact zret zy_178 h rfl rfl
    · refine Or.inr ⟨hc7, ?_⟩
      have h := zm zy_178 h 9 (q := (41, dset (dset lf 0 (4, 253)) 1 (0, 3716), [(0, 3717), (0, g5 254 2976), (0, 48), (4, 253)], g5)) rfl
      dsimp only at h
      obtain ⟨g8, r9, hk, h⟩ := zcallI zy_178 h rfl rfl zy_180 zk_180
      dsimp only at hk h
      refine ⟨g8, r9, hk, ?_⟩
      have h := zm zy_178 h 1 (q := (cond (crel .eq r9 0) 71 47, dset (dset lf 0 (4, 253)) 1 (0, 3716), [], g8)) rfl
      dsimp only at h
      rcases zif_eq h with ⟨hc10, h⟩ | ⟨hc10, h⟩
      · refine Or.inl ⟨hc10, ?_⟩
        have h := zm zy_178 h 1 (q := (72, dset (dset lf 0 (4, 253)) 1 (0, 3716), [(0, 0)], g8)) rfl
        dsimp only at h
        exact zret zy_178 h rfl rfl
      · refine Or.inr ⟨hc10, ?_⟩
        have h := zm zy_178 h 3 (q := (52, dset (dset lf 0 (4, 253)) 1 (0, 3716), [(0, 13), (6, 3), (4, 253)], g8)) rfl
        dsimp only at h
        obtain ⟨g11, r12, hk, h⟩ := zcallI zy_178 h rfl rfl zy_184 zk_184
        dsimp only at hk h
        refine ⟨g11, r12, hk, ?_⟩
        have h := zm zy_178 h 1 (q := (cond (crel .eq r12 0) 71 58, dset (dset lf 0 (4, 253)) 1 (0, 3716), [], g11)) rfl
        dsimp only at h
        rcases zif_eq h with ⟨hc13, h⟩ | ⟨hc13, h⟩
        · refine Or.inl ⟨hc13, ?_⟩
          have h := zm zy_178 h 1 (q := (72, dset (dset lf 0 (4, 253)) 1 (0, 3716), [(0, 0)], g11)) rfl
          dsimp only at h
          exact zret zy_178 h rfl rfl
        · refine Or.inr ⟨hc13, ?_⟩
          have h := zm zy_178 h 6 (q := (65, dset (dset lf 0 (4, 253)) 1 (0, 3716), [(0, 7), (0, 0), (0, 3718), (4, 253)], g11)) rfl
          dsimp only at h
          obtain ⟨g14, r15, hk, h⟩ := zcallI zy_178 h rfl rfl zy_175 zk_175
          dsimp only at hk h
          refine ⟨g14, r15, hk, ?_⟩
          have h := zm zy_178 h 1 (q := (cond (crel .ne r15 0) 73 71, dset (dset lf 0 (4, 253)) 1 (0, 3716), [], g14)) rfl
          dsimp only at h
          rcases zif_ne h with ⟨hc16, h⟩ | ⟨hc16, h⟩
          · refine Or.inl ⟨hc16, ?_⟩
            have h := zm zy_178 h 25 (q := (109, dset (dset lf 0 (4, 253)) 1 (0, 3716), [(0, 1)], cup g14 254 ((w32 ((w32 (3027 + (w32 (8 * (g14 254 3716))))) + (g14 254 3718))).toNat) (g14 254 3717))) rfl
            dsimp only at h
            exact zret zy_178 h rfl rfl
          · refine Or.inr ⟨hc16, ?_⟩
            have h := zm zy_178 h 1 (q := (72, dset (dset lf 0 (4, 253)) 1 (0, 3716), [(0, 0)], g14)) rfl
            dsimp only at h
            exact zret zy_178 h rfl rfl
theorem m_once {sv : Nat → Int32} {L n : Nat} {lf : dlf} {g : cg} {o : cg × Option cv} {a : Int} (h : zr sv L n 174 0 lf [] g o) (h0 : lf 0 = (4, 253)) (h1 : lf 1 = (0, a)) : ((i32 ((i32 (g 253 20) >>> (i32 a &&& 31)).toInt) &&& i32 1).toInt ≠ 1 ∧ (∃ g2, zr sv L n 166 0 (darg 0 [(4, 253)]) [] (cup g 253 20 ((i32 (g 253 20) ||| i32 ((i32 1 <<< (i32 a &&& 31)).toInt)).toInt)) (g2, none) ∧ ((a ≠ 7 ∧ (∃ g4 r5, zr sv L n 175 0 (darg 0 [(4, 253), (0, w32 ((w32 (2979 + a)) - 5)), (0, 0), (0, 99)]) [] g2 (g4, some (0, r5)) ∧ (o = (g4, some (0, r5))))) ∨ (a = 7 ∧ (∃ g6 r7, zr sv L n 175 0 (darg 0 [(4, 253), (0, w32 ((w32 (2979 + a)) - 5)), (0, 0), (0, 60)]) [] g2 (g6, some (0, r7)) ∧ (o = (g6, some (0, r7)))))))) ∨ ((i32 ((i32 (g 253 20) >>> (i32 a &&& 31)).toInt) &&& i32 1).toInt = 1 ∧ (∃ g8 r9, zr sv L n 173 0 (darg 0 [(4, 253), (0, 5)]) [] g (g8, some (0, r9)) ∧ (o = (g8, some (0, r9))))) := by
  rw [zov h0, zov h1] at h
  have h := zm zy_174 h 8 (q := (cond (crel .ne ((i32 ((i32 (g 253 20) >>> (i32 a &&& 31)).toInt) &&& i32 1).toInt) 1) 18 12, dset (dset lf 1 (0, a)) 0 (4, 253), [], g)) rfl
  dsimp only at h
  rcases zif_ne h with ⟨hc1, h⟩ | ⟨hc1, h⟩
  · refine Or.inl ⟨hc1, ?_⟩
    have h := zm zy_174 h 9 (q := (31, dset (dset lf 1 (0, a)) 0 (4, 253), [(4, 253)], cup g 253 20 ((i32 (g 253 20) ||| i32 ((i32 1 <<< (i32 a &&& 31)).toInt)).toInt))) rfl
    dsimp only at h
    obtain ⟨g2, hk, h⟩ := zcallV zy_174 h rfl rfl zy_166 zk_166
    dsimp only at hk h
    refine ⟨g2, hk, ?_⟩
    have h := zm zy_174 h 10 (q := (cond (crel .ne a 7) 54 49, dset (dset lf 1 (0, a)) 0 (4, 253), [(0, 0), (0, w32 ((w32 (2979 + a)) - 5)), (4, 253)], g2)) rfl
    dsimp only at h
    rcases zif_ne h with ⟨hc3, h⟩ | ⟨hc3, h⟩
    · refine Or.inl ⟨hc3, ?_⟩
      have h := zm zy_174 h 1 (q := (56, dset (dset lf 1 (0, a)) 0 (4, 253), [(0, 99), (0, 0), (0, w32 ((w32 (2979 + a)) - 5)), (4, 253)], g2)) rfl
      dsimp only at h
      obtain ⟨g4, r5, hk, h⟩ := zcallI zy_174 h rfl rfl zy_175 zk_175
      dsimp only at hk h
      refine ⟨g4, r5, hk, ?_⟩
      exact zret zy_174 h rfl rfl
    · refine Or.inr ⟨hc3, ?_⟩
      have h := zm zy_174 h 2 (q := (56, dset (dset lf 1 (0, a)) 0 (4, 253), [(0, 60), (0, 0), (0, w32 ((w32 (2979 + a)) - 5)), (4, 253)], g2)) rfl
      dsimp only at h
      obtain ⟨g6, r7, hk, h⟩ := zcallI zy_174 h rfl rfl zy_175 zk_175
      dsimp only at hk h
      refine ⟨g6, r7, hk, ?_⟩
      exact zret zy_174 h rfl rfl
  · refine Or.inr ⟨hc1, ?_⟩
    have h := zm zy_174 h 2 (q := (14, dset (dset lf 1 (0, a)) 0 (4, 253), [(0, 5), (4, 253)], g)) rfl
    dsimp only at h
    obtain ⟨g8, r9, hk, h⟩ := zcallI zy_174 h rfl rfl zy_173 zk_173
    dsimp only at hk h
    refine ⟨g8, r9, hk, ?_⟩
    exact zret zy_174 h rfl rfl
theorem m_part {sv : Nat → Int32} {L n : Nat} {lf : dlf} {g : cg} {o : cg × Option cv} (h : zr sv L n 171 0 lf [] g o) (h0 : lf 0 = (4, 253)) : ∃ g1 r2, zr sv L n 172 0 (darg 0 [(4, 253), (6, 3)]) [] g (g1, some (0, r2)) ∧ ((r2 = 0 ∧ (∃ g3 r4, zr sv L n 190 0 (darg 0 [(4, 253)]) [] g1 (g3, some (0, r4)) ∧ (∃ lf'5, lf'5 0 = (4, 253) ∧ lf'5 1 = (0, r4) ∧ zr sv L n 171 129 lf'5 [] g3 o))) ∨ (r2 = 1 ∧ (∃ g6 r7, zr sv L n 187 0 (darg 0 [(4, 253)]) [] g1 (g6, some (0, r7)) ∧ (∃ lf'8, lf'8 0 = (4, 253) ∧ lf'8 1 = (0, r7) ∧ zr sv L n 171 129 lf'8 [] g6 o))) ∨ (r2 = 2 ∧ (∃ g9 r10, zr sv L n 185 0 (darg 0 [(4, 253), (0, 1)]) [] g1 (g9, some (0, r10)) ∧ (∃ lf'11, lf'11 0 = (4, 253) ∧ lf'11 1 = (0, r10) ∧ zr sv L n 171 129 lf'11 [] g9 o))) ∨ (r2 = 3 ∧ (∃ g12 r13, zr sv L n 185 0 (darg 0 [(4, 253), (0, 0)]) [] g1 (g12, some (0, r13)) ∧ (∃ lf'14, lf'14 0 = (4, 253) ∧ lf'14 1 = (0, r13) ∧ zr sv L n 171 129 lf'14 [] g12 o))) ∨ (r2 = 4 ∧ (∃ g15 r16, zr sv L n 178 0 (darg 0 [(4, 253)]) [] g1 (g15, some (0, r16)) ∧ (∃ lf'17, lf'17 0 = (4, 253) ∧ lf'17 1 = (0, r16) ∧ zr sv L n 171 129 lf'17 [] g15 o))) ∨ (r2 = 5 ∧ (∃ g18 r19, zr sv L n 174 0 (darg 0 [(4, 253), (0, 5)]) [] g1 (g18, some (0, r19)) ∧ (∃ lf'20, lf'20 0 = (4, 253) ∧ lf'20 1 = (0, r19) ∧ zr sv L n 171 129 lf'20 [] g18 o))) ∨ (r2 = 6 ∧ (∃ g21 r22, zr sv L n 174 0 (darg 0 [(4, 253), (0, 6)]) [] g1 (g21, some (0, r22)) ∧ (∃ lf'23, lf'23 0 = (4, 253) ∧ lf'23 1 = (0, r22) ∧ zr sv L n 171 129 lf'23 [] g21 o))) ∨ (r2 = 7 ∧ (∃ g24 r25, zr sv L n 174 0 (darg 0 [(4, 253), (0, 7)]) [] g1 (g24, some (0, r25)) ∧ (∃ lf'26, lf'26 0 = (4, 253) ∧ lf'26 1 = (0, r25) ∧ zr sv L n 171 129 lf'26 [] g24 o))) ∨ ((r2 < 0 ∨ 7 < r2) ∧ (∃ g27 r28, zr sv L n 173 0 (darg 0 [(4, 253), (0, 2)]) [] g1 (g27, some (0, r28)) ∧ (o = (g27, some (0, r28)))))) := by
  rw [zov h0] at h
  have h := zm zy_171 h 2 (q := (3, dset lf 0 (4, 253), [(6, 3), (4, 253)], g)) rfl
  dsimp only at h
  obtain ⟨g1, r2, hk, h⟩ := zcallI zy_171 h rfl rfl zy_172 zk_172
  dsimp only at hk h
  refine ⟨g1, r2, hk, ?_⟩
  rcases ztab_0_7 (z := r2) with hz | hz | hz | hz | hz | hz | hz | hz | hz
  · rw [hz] at h
    have h := zm zy_171 h 1 (q := (52, dset lf 0 (4, 253), [], g1)) rfl
    dsimp only at h
    refine Or.inl ⟨hz, ?_⟩
    have h := zm zy_171 h 1 (q := (53, dset lf 0 (4, 253), [(4, 253)], g1)) rfl
    dsimp only at h
    obtain ⟨g3, r4, hk, h⟩ := zcallI zy_171 h rfl rfl zy_190 zk_190
    dsimp only at hk h
    refine ⟨g3, r4, hk, ?_⟩
    have h := zm zy_171 h 2 (q := (129, dset (dset lf 0 (4, 253)) 1 (0, r4), [], g3)) rfl
    dsimp only at h
    exact ⟨_, rfl, rfl, h⟩
  · rw [hz] at h
    have h := zm zy_171 h 1 (q := (60, dset lf 0 (4, 253), [], g1)) rfl
    dsimp only at h
    refine Or.inr (Or.inl ⟨hz, ?_⟩)
    have h := zm zy_171 h 1 (q := (61, dset lf 0 (4, 253), [(4, 253)], g1)) rfl
    dsimp only at h
    obtain ⟨g6, r7, hk, h⟩ := zcallI zy_171 h rfl rfl zy_187 zk_187
    dsimp only at hk h
    refine ⟨g6, r7, hk, ?_⟩
    have h := zm zy_171 h 2 (q := (129, dset (dset lf 0 (4, 253)) 1 (0, r7), [], g6)) rfl
    dsimp only at h
    exact ⟨_, rfl, rfl, h⟩
  · rw [hz] at h
    have h := zm zy_171 h 1 (q := (68, dset lf 0 (4, 253), [], g1)) rfl
    dsimp only at h
    refine Or.inr (Or.inr (Or.inl ⟨hz, ?_⟩))
    have h := zm zy_171 h 2 (q := (70, dset lf 0 (4, 253), [(0, 1), (4, 253)], g1)) rfl
    dsimp only at h
    obtain ⟨g9, r10, hk, h⟩ := zcallI zy_171 h rfl rfl zy_185 zk_185
    dsimp only at hk h
    refine ⟨g9, r10, hk, ?_⟩
    have h := zm zy_171 h 2 (q := (129, dset (dset lf 0 (4, 253)) 1 (0, r10), [], g9)) rfl
    dsimp only at h
    exact ⟨_, rfl, rfl, h⟩
  · rw [hz] at h
    have h := zm zy_171 h 1 (q := (77, dset lf 0 (4, 253), [], g1)) rfl
    dsimp only at h
    refine Or.inr (Or.inr (Or.inr (Or.inl ⟨hz, ?_⟩)))
    have h := zm zy_171 h 2 (q := (79, dset lf 0 (4, 253), [(0, 0), (4, 253)], g1)) rfl
    dsimp only at h
    obtain ⟨g12, r13, hk, h⟩ := zcallI zy_171 h rfl rfl zy_185 zk_185
    dsimp only at hk h
    refine ⟨g12, r13, hk, ?_⟩
    have h := zm zy_171 h 2 (q := (129, dset (dset lf 0 (4, 253)) 1 (0, r13), [], g12)) rfl
    dsimp only at h
    exact ⟨_, rfl, rfl, h⟩
  · rw [hz] at h
    have h := zm zy_171 h 1 (q := (86, dset lf 0 (4, 253), [], g1)) rfl
    dsimp only at h
    refine Or.inr (Or.inr (Or.inr (Or.inr (Or.inl ⟨hz, ?_⟩))))
    have h := zm zy_171 h 1 (q := (87, dset lf 0 (4, 253), [(4, 253)], g1)) rfl
    dsimp only at h
    obtain ⟨g15, r16, hk, h⟩ := zcallI zy_171 h rfl rfl zy_178 zk_178
    dsimp only at hk h
    refine ⟨g15, r16, hk, ?_⟩
    have h := zm zy_171 h 2 (q := (129, dset (dset lf 0 (4, 253)) 1 (0, r16), [], g15)) rfl
    dsimp only at h
    exact ⟨_, rfl, rfl, h⟩
  · rw [hz] at h
    have h := zm zy_171 h 1 (q := (94, dset lf 0 (4, 253), [], g1)) rfl
    dsimp only at h
    refine Or.inr (Or.inr (Or.inr (Or.inr (Or.inr (Or.inl ⟨hz, ?_⟩)))))
    have h := zm zy_171 h 2 (q := (96, dset lf 0 (4, 253), [(0, 5), (4, 253)], g1)) rfl
    dsimp only at h
    obtain ⟨g18, r19, hk, h⟩ := zcallI zy_171 h rfl rfl zy_174 zk_174
    dsimp only at hk h
    refine ⟨g18, r19, hk, ?_⟩
    have h := zm zy_171 h 2 (q := (129, dset (dset lf 0 (4, 253)) 1 (0, r19), [], g18)) rfl
    dsimp only at h
    exact ⟨_, rfl, rfl, h⟩
  · rw [hz] at h
    have h := zm zy_171 h 1 (q := (103, dset lf 0 (4, 253), [], g1)) rfl
    dsimp only at h
    refine Or.inr (Or.inr (Or.inr (Or.inr (Or.inr (Or.inr (Or.inl ⟨hz, ?_⟩))))))
    have h := zm zy_171 h 2 (q := (106, dset lf 0 (4, 253), [(0, 6), (4, 253)], g1)) rfl
    dsimp only at h
    obtain ⟨g21, r22, hk, h⟩ := zcallI zy_171 h rfl rfl zy_174 zk_174
    dsimp only at hk h
    refine ⟨g21, r22, hk, ?_⟩
    have h := zm zy_171 h 2 (q := (129, dset (dset lf 0 (4, 253)) 1 (0, r22), [], g21)) rfl
    dsimp only at h
    exact ⟨_, rfl, rfl, h⟩
  · rw [hz] at h
    have h := zm zy_171 h 1 (q := (113, dset lf 0 (4, 253), [], g1)) rfl
    dsimp only at h
    refine Or.inr (Or.inr (Or.inr (Or.inr (Or.inr (Or.inr (Or.inr (Or.inl ⟨hz, ?_⟩)))))))
    have h := zm zy_171 h 2 (q := (116, dset lf 0 (4, 253), [(0, 7), (4, 253)], g1)) rfl
    dsimp only at h
    obtain ⟨g24, r25, hk, h⟩ := zcallI zy_171 h rfl rfl zy_174 zk_174
    dsimp only at hk h
    refine ⟨g24, r25, hk, ?_⟩
    have h := zm zy_171 h 2 (q := (129, dset (dset lf 0 (4, 253)) 1 (0, r25), [], g24)) rfl
    dsimp only at h
    exact ⟨_, rfl, rfl, h⟩
  · have h := ztabd h zy_171 rfl hz (by decide)
    refine Or.inr (Or.inr (Or.inr (Or.inr (Or.inr (Or.inr (Or.inr (Or.inr (⟨hz, ?_⟩))))))))
    have h := zm zy_171 h 2 (q := (125, dset lf 0 (4, 253), [(0, 2), (4, 253)], g1)) rfl
    dsimp only at h
    obtain ⟨g27, r28, hk, h⟩ := zcallI zy_171 h rfl rfl zy_173 zk_173
    dsimp only at hk h
    refine ⟨g27, r28, hk, ?_⟩
    exact zret zy_171 h rfl rfl
theorem m_part129 {sv : Nat → Int32} {L n : Nat} {lf : dlf} {g : cg} {o : cg × Option cv} {a : Int} (h : zr sv L n 171 129 lf [] g o) (h0 : lf 0 = (4, 253)) (h1 : lf 1 = (0, a)) : (a = 0 ∧ (o = (g, some (0, 0)))) ∨ (a ≠ 0 ∧ (∃ g2 r3, zr sv L n 176 0 (darg 0 [(4, 253), (0, 59)]) [] g (g2, some (0, r3)) ∧ ((r3 = 0 ∧ (o = (g2, some (0, 0)))) ∨ (r3 ≠ 0 ∧ (o = (g2, some (0, 1))))))) := by
  rw [zov h0, zov h1] at h
  have h := zm zy_171 h 2 (q := (cond (crel .eq a 0) 146 133, dset (dset lf 1 (0, a)) 0 (4, 253), [], g)) rfl
  dsimp only at h
  rcases zif_eq h with ⟨hc1, h⟩ | ⟨hc1, h⟩
  · refine Or.inl ⟨hc1, ?_⟩
    have h := zm zy_171 h 1 (q := (147, dset (dset lf 1 (0, a)) 0 (4, 253), [(0, 0)], g)) rfl
    dsimp only at h
    exact zret zy_171 h rfl rfl
  · refine Or.inr ⟨hc1, ?_⟩
    have h := zm zy_171 h 2 (q := (136, dset (dset lf 1 (0, a)) 0 (4, 253), [(0, 59), (4, 253)], g)) rfl
    dsimp only at h
    obtain ⟨g2, r3, hk, h⟩ := zcallI zy_171 h rfl rfl zy_176 zk_176
    dsimp only at hk h
    refine ⟨g2, r3, hk, ?_⟩
    have h := zm zy_171 h 1 (q := (cond (crel .eq r3 0) 146 142, dset (dset lf 1 (0, a)) 0 (4, 253), [], g2)) rfl
    dsimp only at h
    rcases zif_eq h with ⟨hc4, h⟩ | ⟨hc4, h⟩
    · refine Or.inl ⟨hc4, ?_⟩
      have h := zm zy_171 h 1 (q := (147, dset (dset lf 1 (0, a)) 0 (4, 253), [(0, 0)], g2)) rfl
      dsimp only at h
      exact zret zy_171 h rfl rfl
    · refine Or.inr ⟨hc4, ?_⟩
      have h := zm zy_171 h 2 (q := (147, dset (dset lf 1 (0, a)) 0 (4, 253), [(0, 1)], g2)) rfl
      dsimp only at h
      exact zret zy_171 h rfl rfl
theorem m_plain0 {sv : Nat → Int32} {L n : Nat} {lf : dlf} {g : cg} {o : cg × Option cv} {a : Int} (h : zr sv L n 21 0 lf [] g o) (h0 : lf 0 = (4, 253)) (h1 : lf 1 = (0, a)) : ∃ lf'1, lf'1 0 = (4, 253) ∧ lf'1 1 = (0, a) ∧ lf'1 2 = (0, 0) ∧ zr sv L n 21 2 lf'1 [] g o := by
  rw [zov h0, zov h1] at h
  have h := zm zy_21 h 2 (q := (2, dset (dset (dset lf 1 (0, a)) 0 (4, 253)) 2 (0, 0), [], g)) rfl
  dsimp only at h
  exact ⟨_, rfl, rfl, rfl, h⟩
theorem m_begins0 {sv : Nat → Int32} {L n : Nat} {lf : dlf} {g : cg} {o : cg × Option cv} {a b : Int} (h : zr sv L n 165 0 lf [] g o) (h0 : lf 0 = (4, 253)) (h1 : lf 1 = (0, a)) (h2 : lf 2 = (0, b)) : (a < 0 ∧ (o = (g, some (0, 0)))) ∨ (0 ≤ a ∧ ((g 253 10 < a ∧ (o = (g, some (0, 0)))) ∨ (a ≤ g 253 10 ∧ ((a ≤ b ∧ (∃ lf'4, lf'4 0 = (4, 253) ∧ lf'4 1 = (0, a) ∧ lf'4 3 = (0, 0) ∧ zr sv L n 165 26 lf'4 [] (cup g 253 11 a) o)) ∨ (b < a ∧ (o = (g, some (0, 0)))))))) := by
  rw [zov h0, zov h1, zov h2] at h
  have h := zm zy_165 h 2 (q := (cond (crel .lt a 0) 17 4, dset (dset (dset lf 2 (0, b)) 1 (0, a)) 0 (4, 253), [], g)) rfl
  dsimp only at h
  rcases zif_lt h with ⟨hc1, h⟩ | ⟨hc1, h⟩
  · refine Or.inl ⟨hc1, ?_⟩
    have h := zm zy_165 h 1 (q := (18, dset (dset (dset lf 2 (0, b)) 1 (0, a)) 0 (4, 253), [(0, 0)], g)) rfl
    dsimp only at h
    exact zret zy_165 h rfl rfl
  · refine Or.inr ⟨hc1, ?_⟩
    have h := zm zy_165 h 4 (q := (cond (crel .gt a (g 253 10)) 17 12, dset (dset (dset lf 2 (0, b)) 1 (0, a)) 0 (4, 253), [], g)) rfl
    dsimp only at h
    rcases zif_gt h with ⟨hc2, h⟩ | ⟨hc2, h⟩
    · refine Or.inl ⟨hc2, ?_⟩
      have h := zm zy_165 h 1 (q := (18, dset (dset (dset lf 2 (0, b)) 1 (0, a)) 0 (4, 253), [(0, 0)], g)) rfl
      dsimp only at h
      exact zret zy_165 h rfl rfl
    · refine Or.inr ⟨hc2, ?_⟩
      have h := zm zy_165 h 3 (q := (cond (crel .le a b) 19 17, dset (dset (dset lf 2 (0, b)) 1 (0, a)) 0 (4, 253), [], g)) rfl
      dsimp only at h
      rcases zif_le h with ⟨hc3, h⟩ | ⟨hc3, h⟩
      · refine Or.inl ⟨hc3, ?_⟩
        have h := zm zy_165 h 5 (q := (26, dset (dset (dset (dset lf 2 (0, b)) 1 (0, a)) 0 (4, 253)) 3 (0, 0), [], cup g 253 11 a)) rfl
        dsimp only at h
        exact ⟨_, rfl, rfl, rfl, h⟩
      · refine Or.inr ⟨hc3, ?_⟩
        have h := zm zy_165 h 1 (q := (18, dset (dset (dset lf 2 (0, b)) 1 (0, a)) 0 (4, 253), [(0, 0)], g)) rfl
        dsimp only at h
        exact zret zy_165 h rfl rfl
theorem m_begins26 {sv : Nat → Int32} {L n : Nat} {lf : dlf} {g : cg} {o : cg × Option cv} {a c : Int} (h : zr sv L (n + 1) 165 26 lf [] g o) (h0 : lf 0 = (4, 253)) (h1 : lf 1 = (0, a)) (h3 : lf 3 = (0, c)) : (a ≤ c ∧ (∃ lf'2, lf'2 0 = (4, 253) ∧ zr sv L n 165 49 lf'2 [] g o)) ∨ (c < a ∧ (0 ≤ c → c < 900 → (∃ lf'5, lf'5 0 = (4, 253) ∧ lf'5 1 = (0, a) ∧ lf'5 3 = (0, w32 (c + 1)) ∧ zr sv L n 165 26 lf'5 [] (cup g 260 ((c).toNat) ((i32 (g 259 ((c).toNat))).toInt8.toInt32.toInt)) o))) := by
  rw [zov h0, zov h1, zov h3] at h
  have h := zm1 zy_165 h 2 (q := (cond (crel .ge c a) 49 31, dset (dset (dset lf 3 (0, c)) 1 (0, a)) 0 (4, 253), [], g)) rfl
  dsimp only at h
  rcases zif_ge h with ⟨hc1, h⟩ | ⟨hc1, h⟩
  · refine Or.inl ⟨hc1, ?_⟩
    exact ⟨_, rfl, h⟩
  · refine Or.inr ⟨hc1, ?_⟩
    intro ha3 hb4
    have h := zm zy_165 h 6 (q := (41, dset (dset (dset lf 3 (0, c)) 1 (0, a)) 0 (4, 253), [(0, c), (4, 259), (0, c), (4, 260)], g)) rfl
    dsimp only at h
    have h := zald zy_165 h rfl rfl (dvb_259 ha3 hb4)
    have h : zr sv L n 165 42 (dset (dset (dset lf 3 (0, c)) 1 (0, a)) 0 (4, 253)) [(0, g 259 ((c).toNat)), (0, c), (4, 260)] (g) o := by first | exact h | (rw [cup_at] at h; exact h)
    have h := zm zy_165 h 3 (q := (26, dset (dset (dset (dset lf 3 (0, c)) 1 (0, a)) 0 (4, 253)) 3 (0, w32 (c + 1)), [], cup g 260 ((c).toNat) ((i32 (g 259 ((c).toNat))).toInt8.toInt32.toInt))) rfl
    dsimp only at h
    exact ⟨_, rfl, rfl, rfl, h⟩
theorem m_begins49 {sv : Nat → Int32} {L n : Nat} {lf : dlf} {g : cg} {o : cg × Option cv} (h : zr sv L n 165 49 lf [] g o) (h0 : lf 0 = (4, 253)) : ∃ g1, zr sv L n 166 0 (darg 0 [(4, 253)]) [] (cup (cup (cup (cup (cup g 253 10 0) 253 18 0) 253 17 ((-1))) 253 14 0) 253 19 0) (g1, none) ∧ (o = (g1, some (0, 1))) := by
  rw [zov h0] at h
  have h := zm zy_165 h 16 (q := (75, dset lf 0 (4, 253), [(4, 253)], cup (cup (cup (cup (cup g 253 10 0) 253 18 0) 253 17 ((-1))) 253 14 0) 253 19 0)) rfl
  dsimp only at h
  obtain ⟨g1, hk, h⟩ := zcallV zy_165 h rfl rfl zy_166 zk_166
  dsimp only at hk h
  refine ⟨g1, hk, ?_⟩
  have h := zm zy_165 h 1 (q := (79, dset lf 0 (4, 253), [(0, 1)], g1)) rfl
  dsimp only at h
  exact zret zy_165 h rfl rfl
theorem m_court0 {sv : Nat → Int32} {L n : Nat} {lf : dlf} {g : cg} {o : cg × Option cv} {a : Int} (h : zr sv L n 274 0 lf [] g o) (h0 : lf 0 = (4, 253)) (h1 : lf 1 = (0, a)) : ∃ g1 r2, zr sv L n 165 0 (darg 0 [(4, 253), (0, a), (0, 900)]) [] g (g1, some (0, r2)) ∧ ((r2 ≠ 0 ∧ (∃ g4, zr sv L n 21 0 (darg 0 [(4, 253), (0, 2976)]) [] g1 (g4, none) ∧ (∃ lf'5, lf'5 0 = (4, 253) ∧ lf'5 2 = (0, 1) ∧ zr sv L n 274 31 lf'5 [] (cup g4 253 20 0) o))) ∨ (r2 = 0 ∧ (∃ g6 r7, zr sv L n 170 0 (darg 0 [(4, 253), (0, 1)]) [] g1 (g6, some (0, r7)) ∧ (o = (g6, some (0, r7)))))) := by
  rw [zov h0, zov h1] at h
  have h := zm zy_274 h 3 (q := (5, dset (dset lf 1 (0, a)) 0 (4, 253), [(0, 900), (0, a), (4, 253)], g)) rfl
  dsimp only at h
  obtain ⟨g1, r2, hk, h⟩ := zcallI zy_274 h rfl rfl zy_165 zk_165
  dsimp only at hk h
  refine ⟨g1, r2, hk, ?_⟩
  have h := zm zy_274 h 1 (q := (cond (crel .ne r2 0) 17 11, dset (dset lf 1 (0, a)) 0 (4, 253), [], g1)) rfl
  dsimp only at h
  rcases zif_ne h with ⟨hc3, h⟩ | ⟨hc3, h⟩
  · refine Or.inl ⟨hc3, ?_⟩
    have h := zm zy_274 h 2 (q := (21, dset (dset lf 1 (0, a)) 0 (4, 253), [(0, 2976), (4, 253)], g1)) rfl
    dsimp only at h
    obtain ⟨g4, hk, h⟩ := zcallV zy_274 h rfl rfl zy_21 zk_21
    dsimp only at hk h
    refine ⟨g4, hk, ?_⟩
    have h := zm zy_274 h 5 (q := (31, dset (dset (dset lf 1 (0, a)) 0 (4, 253)) 2 (0, 1), [], cup g4 253 20 0)) rfl
    dsimp only at h
    exact ⟨_, rfl, rfl, h⟩
  · refine Or.inr ⟨hc3, ?_⟩
    have h := zm zy_274 h 2 (q := (13, dset (dset lf 1 (0, a)) 0 (4, 253), [(0, 1), (4, 253)], g1)) rfl
    dsimp only at h
    obtain ⟨g6, r7, hk, h⟩ := zcallI zy_274 h rfl rfl zy_170 zk_170
    dsimp only at hk h
    refine ⟨g6, r7, hk, ?_⟩
    exact zret zy_274 h rfl rfl
theorem m_court31 {sv : Nat → Int32} {L n : Nat} {lf : dlf} {g : cg} {o : cg × Option cv} {b : Int} (h : zr sv L (n + 1) 274 31 lf [] g o) (h0 : lf 0 = (4, 253)) (h2 : lf 2 = (0, b)) : (b = 0 ∧ (∃ lf'2, lf'2 0 = (4, 253) ∧ zr sv L n 274 50 lf'2 [] g o)) ∨ (b ≠ 0 ∧ ((g 253 12 = 0 ∧ (∃ lf'4, lf'4 0 = (4, 253) ∧ zr sv L n 274 50 lf'4 [] g o)) ∨ (g 253 12 ≠ 0 ∧ (∃ g5 r6, zr sv L n 171 0 (darg 0 [(4, 253)]) [] g (g5, some (0, r6)) ∧ (∃ lf'7, lf'7 0 = (4, 253) ∧ lf'7 2 = (0, r6) ∧ zr sv L n 274 31 lf'7 [] g5 o))))) := by
  rw [zov h0, zov h2] at h
  have h := zm1 zy_274 h 1 (q := (cond (crel .eq b 0) 50 35, dset (dset lf 2 (0, b)) 0 (4, 253), [], g)) rfl
  dsimp only at h
  rcases zif_eq h with ⟨hc1, h⟩ | ⟨hc1, h⟩
  · refine Or.inl ⟨hc1, ?_⟩
    exact ⟨_, rfl, h⟩
  · refine Or.inr ⟨hc1, ?_⟩
    have h := zm zy_274 h 3 (q := (cond (crel .eq (g 253 12) 0) 50 42, dset (dset lf 2 (0, b)) 0 (4, 253), [], g)) rfl
    dsimp only at h
    rcases zif_eq h with ⟨hc3, h⟩ | ⟨hc3, h⟩
    · refine Or.inl ⟨hc3, ?_⟩
      exact ⟨_, rfl, h⟩
    · refine Or.inr ⟨hc3, ?_⟩
      have h := zm zy_274 h 1 (q := (43, dset (dset lf 2 (0, b)) 0 (4, 253), [(4, 253)], g)) rfl
      dsimp only at h
      obtain ⟨g5, r6, hk, h⟩ := zcallI zy_274 h rfl rfl zy_171 zk_171
      dsimp only at hk h
      refine ⟨g5, r6, hk, ?_⟩
      have h := zm zy_274 h 2 (q := (31, dset (dset (dset lf 2 (0, b)) 0 (4, 253)) 2 (0, r6), [], g5)) rfl
      dsimp only at h
      exact ⟨_, rfl, rfl, h⟩
theorem m_court50 {sv : Nat → Int32} {L n : Nat} {lf : dlf} {g : cg} {o : cg × Option cv} (h : zr sv L n 274 50 lf [] g o) (h0 : lf 0 = (4, 253)) : (g 253 18 ≠ 0 ∧ (∃ lf'2, lf'2 0 = (4, 253) ∧ zr sv L n 274 117 lf'2 [] g o)) ∨ (g 253 18 = 0 ∧ (∃ lf'3, lf'3 0 = (4, 253) ∧ lf'3 3 = (0, 0) ∧ zr sv L n 274 59 lf'3 [] g o)) := by
  rw [zov h0] at h
  have h := zm zy_274 h 3 (q := (cond (crel .ne (g 253 18) 0) 117 57, dset lf 0 (4, 253), [], g)) rfl
  dsimp only at h
  rcases zif_ne h with ⟨hc1, h⟩ | ⟨hc1, h⟩
  · refine Or.inl ⟨hc1, ?_⟩
    exact ⟨_, rfl, h⟩
  · refine Or.inr ⟨hc1, ?_⟩
    have h := zm zy_274 h 2 (q := (59, dset (dset lf 0 (4, 253)) 3 (0, 0), [], g)) rfl
    dsimp only at h
    exact ⟨_, rfl, rfl, h⟩
theorem m_taken {sv : Nat → Int32} {L n : Nat} {lf : dlf} {g : cg} {o : cg × Option cv} {a : Int} (h : zr sv L n 191 0 lf [] g o) (h0 : lf 0 = (4, 253)) (h1 : lf 1 = (0, a)) : (g 253 18 ≤ 0 ∧ (∃ g2 r3, zr sv L n 192 0 (darg 0 [(4, 253), (0, a)]) [] (cup g 253 16 (g 253 18)) (g2, some (0, r3)) ∧ (o = (g2, some (0, r3))))) ∨ (0 < g 253 18 ∧ (∃ g4 r5, zr sv L n 170 0 (darg 0 [(4, 253), (0, 9)]) [] (cup g 253 16 (g 253 18)) (g4, some (0, r5)) ∧ (o = (g4, some (0, r5))))) := by
  rw [zov h0, zov h1] at h
  have h := zm zy_191 h 7 (q := (cond (crel .le (g 253 18) 0) 24 15, dset (dset lf 1 (0, a)) 0 (4, 253), [], cup g 253 16 (g 253 18))) rfl
  dsimp only at h
  rcases zif_le h with ⟨hc1, h⟩ | ⟨hc1, h⟩
  · refine Or.inl ⟨hc1, ?_⟩
    have h := zm zy_191 h 2 (q := (26, dset (dset lf 1 (0, a)) 0 (4, 253), [(0, a), (4, 253)], cup g 253 16 (g 253 18))) rfl
    dsimp only at h
    obtain ⟨g2, r3, hk, h⟩ := zcallI zy_191 h rfl rfl zy_192 zk_192
    dsimp only at hk h
    refine ⟨g2, r3, hk, ?_⟩
    exact zret zy_191 h rfl rfl
  · refine Or.inr ⟨hc1, ?_⟩
    have h := zm zy_191 h 2 (q := (18, dset (dset lf 1 (0, a)) 0 (4, 253), [(0, 9), (4, 253)], cup g 253 16 (g 253 18))) rfl
    dsimp only at h
    obtain ⟨g4, r5, hk, h⟩ := zcallI zy_191 h rfl rfl zy_170 zk_170
    dsimp only at hk h
    refine ⟨g4, r5, hk, ?_⟩
    have h := zm zy_191 h 1 (q := (29, dset (dset lf 1 (0, a)) 0 (4, 253), [(0, r5)], g4)) rfl
    dsimp only at h
    exact zret zy_191 h rfl rfl
theorem m_refuse {sv : Nat → Int32} {L n : Nat} {lf : dlf} {g : cg} {o : cg × Option cv} {a : Int} (h : zr sv L n 170 0 lf [] g o) (h0 : lf 0 = (4, 253)) (h1 : lf 1 = (0, a)) : o = (cup g 253 2 a, some (0, (-1))) := by
  rw [zov h0, zov h1] at h
  have h := zm zy_170 h 4 (q := (6, dset (dset lf 1 (0, a)) 0 (4, 253), [(0, (-1))], cup g 253 2 a)) rfl
  dsimp only at h
  exact zret zy_170 h rfl rfl
theorem m_gives {sv : Nat → Int32} {L n : Nat} {lf : dlf} {g : cg} {o : cg × Option cv} {a : Int} (h : zr sv L n 192 0 lf [] g o) (h0 : lf 0 = (4, 253)) (h1 : lf 1 = (0, a)) : o = (cup g 253 2 0, some (0, a)) := by
  rw [zov h0, zov h1] at h
  have h := zm zy_192 h 4 (q := (6, dset (dset lf 1 (0, a)) 0 (4, 253), [(0, a)], cup g 253 2 0)) rfl
  dsimp only at h
  exact zret zy_192 h rfl rfl
end
end
section
/-! both tokenizers at one place of one text -/
theorem blk_m {x : Int} (h0 : -128 ≤ x) (h1 : x ≤ 127) : blk x ↔ blk (x % 256) := by unfold blk; omega
theorem sml_m {x : Int} (h0 : -128 ≤ x) (h1 : x ≤ 127) : sml x ↔ sml (x % 256) := by unfold sml; omega
theorem dgt_m {x : Int} (h0 : -128 ≤ x) (h1 : x ≤ 127) : dgt x ↔ dgt (x % 256) := by unfold dgt; omega
theorem sgn_m {x : Int} (h0 : -128 ≤ x) (h1 : x ≤ 127) : sgn x ↔ sgn (x % 256) := by unfold sgn; omega
theorem RN.cg {P : Int → Prop} {b b' : Nat → Int} {m p q : Nat} (h : RN P b m p q) (hb : ∀ j, j < m → (P (b j) ↔ P (b' j))) : RN P b' m p q := by
  obtain ⟨a1, a2, a3, a4⟩ := h
  exact ⟨a1, a2, fun j c1 c2 => (hb j (by omega)).mp (a3 j c1 c2), fun c e => a4 c ((hb q c).mpr e)⟩
theorem DC_cg {b b' : Nat → Int} {p : Nat} : ∀ (k : Nat), (∀ i, i < k → b (p + i) = b' (p + i)) → DC b p k = DC b' p k
  | 0, _ => rfl
  | k + 1, h => by
    show DC b p k * 10 + (b (p + k) - 48) = DC b' p k * 10 + (b' (p + k) - 48)
    rw [DC_cg k (fun i hi => h i (by omega)), h k (by omega)]
def TE (c d : cg) (m : Nat) : Prop := m ≤ 900 ∧ c 88 2 = (m : Int) ∧ d 253 11 = (m : Int) ∧ (∀ j : Nat, j < 900 → -128 ≤ c 2 j ∧ c 2 j ≤ 127) ∧ MBY d ∧ (∀ j : Nat, j < m → d 260 j = c 2 j) ∧ (∀ i : Nat, i < 25 → c 89 i = kv i) ∧ c 88 10 = 0 ∧ c 88 11 = -1 ∧ d 253 17 = -1
theorem TE.fr {c d c' d' : cg} {m : Nat} (h : TE c d m) (hc : FT c' c) (hd : FM d' d) : TE c' d' m := by
  obtain ⟨h1, h2, h3, h4, h5, h6, h7, k1, k2, k3⟩ := h
  refine ⟨h1, (hc 88 2 (by omega)).trans h2, (hd 253 11 (by omega)).trans h3, ?_, ?_, ?_, ?_, (hc 88 10 (by omega)).trans k1, (hc 88 11 (by omega)).trans k2, (hd 253 17 (by omega)).trans k3⟩
  · rw [hc.row (k := 2) (by decide)]; exact h4
  · unfold MBY; rw [hd.row (k := 260) (by decide)]; exact h5
  · rw [hc.row (k := 2) (by decide), hd.row (k := 260) (by decide)]; exact h6
  · rw [hc.row (k := 89) (by decide)]; exact h7
theorem TE.mb {c d : cg} {m : Nat} (h : TE c d m) {j : Nat} (hj : j < m) : mb d j = c 2 j % 256 := by
  obtain ⟨h1, h2, h3, h4, h5, h6, h7⟩ := h
  show d 260 j % 256 = c 2 j % 256
  rw [h6 j hj]
/-- the same token on both sides -/
def TQ (c d : cg) (m : Nat) : Prop := ∃ p : Nat, c 88 5 = (p : Int) ∧ d 253 13 = (p : Int) ∧ p ≤ m ∧
  ((c 88 4 = 0 ∧ d 253 12 = 0 ∧ c 88 7 = -1) ∨
   (∃ q : Nat, p < q ∧ q ≤ m ∧ c 88 3 = (q : Int) ∧ d 253 14 = (q : Int) ∧ d 253 12 = 2 ∧ (∀ j, p ≤ j → j < q → sml (mb d j)) ∧
     ((8 < q - p ∧ c 88 4 = 3 ∧ c 88 7 = -1) ∨ (q - p ≤ 8 ∧ c 88 6 = P5 (mb d) p (q - p) ∧ ((∃ i : Nat, i < 25 ∧ kv i = P5 (mb d) p (q - p) ∧ c 88 7 = (i : Int) ∧ c 88 4 = 1) ∨ ((∀ i, i < 25 → kv i ≠ P5 (mb d) p (q - p)) ∧ c 88 7 = -1 ∧ c 88 4 = 2))))) ∨
   (∃ q : Nat, (p < q ∧ q ≤ m) ∧ c 88 3 = (q : Int) ∧ d 253 14 = (q : Int) ∧ c 88 4 = 4 ∧ d 253 12 = 3 ∧ c 88 8 = d 253 15 ∧ c 88 7 = -1) ∨
   (∃ q : Nat, (p < q ∧ q ≤ m) ∧ c 88 3 = (q : Int) ∧ d 253 14 = (q : Int) ∧ c 88 4 = 5 ∧ d 253 12 = 4 ∧ c 88 9 = d 253 15 ∧ c 88 7 = -1) ∨
   ((c 88 4 = 6 ∧ p < m) ∧ d 253 12 = 1 ∧ c 88 7 = -1))
section Sim
variable {sv : Nat → Int32} {L : Nat}
theorem adv_ahd {n n' : Nat} {lf lf' : dlf} {c d c' d' : cg} {a m : Nat} (hE : TE c d m) (ha : c 88 3 = (a : Int)) (ha' : d 253 14 = (a : Int)) (ham : a ≤ m) (h : zr sv L n 37 0 lf [] c (c', none)) (h0 : lf 0 = (4, 88)) (h' : zr sv L n' 166 0 lf' [] d (d', none)) (h0' : lf' 0 = (4, 253)) : FT c' c ∧ FM d' d ∧ TE c' d' m ∧ TQ c' d' m := by
  obtain ⟨h1, h2, h3, h4, h5, h6, h7⟩ := hE
  obtain ⟨f1, p, hR, hp, hT⟩ := adv_ok h0 ha h2 ham h1 h
  obtain ⟨f2, p', hR', hp', hT'⟩ := ahd_ok h0' ha' h3 h5 ham h1 h'
  dsimp only at f1 hp hT f2 hp' hT'
  have hE : TE c d m := ⟨h1, h2, h3, h4, h5, h6, h7⟩
  have hbb : ∀ j, j < m → mb d j = c 2 j % 256 := fun j hj => hE.mb hj
  have cB : ∀ j, j < m → (blk (c 2 j) ↔ blk (mb d j)) := fun j hj => by rw [hbb j hj]; exact blk_m (h4 j (by omega)).1 (h4 j (by omega)).2
  have cS : ∀ j, j < m → (sml (c 2 j) ↔ sml (mb d j)) := fun j hj => by rw [hbb j hj]; exact sml_m (h4 j (by omega)).1 (h4 j (by omega)).2
  have cD : ∀ j, j < m → (dgt (c 2 j) ↔ dgt (mb d j)) := fun j hj => by rw [hbb j hj]; exact dgt_m (h4 j (by omega)).1 (h4 j (by omega)).2
  have cG : ∀ j, j < m → (sgn (c 2 j) ↔ sgn (mb d j)) := fun j hj => by rw [hbb j hj]; exact sgn_m (h4 j (by omega)).1 (h4 j (by omega)).2
  have ep : p = p' := RN.un (hR.cg cB) hR'
  subst ep
  have hpm := hR.2.1
  have sd : ∀ x : Int, sml x → ¬ dgt x ∧ ¬ sgn x := fun x hx => by unfold sml dgt sgn at *; omega
  have dg : ∀ x : Int, dgt x → ¬ sgn x := fun x hx => by unfold dgt sgn at *; omega
  have eqs : ∀ j, j < m → sml (mb d j) → c 2 j = mb d j := fun j hj hx => by
    have := h4 j (by omega)
    rw [hbb j hj] at hx ⊢
    unfold sml at hx
    omega
  have eqd : ∀ j, j < m → dgt (mb d j) → c 2 j = mb d j := fun j hj hx => by
    have := h4 j (by omega)
    rw [hbb j hj] at hx ⊢
    unfold dgt at hx
    omega
  refine ⟨f1, f2, hE.fr f1 f2, p, hp, hp', hpm, ?_⟩
  have f2b : mb d' = mb d := f2.mb
  rw [f2b]
  rcases hT with ⟨a1, a2, a3, a4⟩ | ⟨a1, a2, q, a3, a4, a5⟩ | ⟨a1, a2, q, a3, a4, a5, a6⟩ | ⟨a1, a2, a3, a4, a5, a6⟩ | ⟨a1, a2, a3, a4, a5, a6⟩
  · rcases hT' with ⟨b1, b2⟩ | ⟨b1, b2⟩ | ⟨b1, b2⟩ | ⟨b1, b2⟩ | ⟨b1, b2⟩
    · exact Or.inl ⟨a2, b2, a3⟩
    all_goals omega
  · have hs := (cS p a1).mp a2
    rcases hT' with ⟨b1, b2⟩ | ⟨b1, b2, q', b3, b4, b5⟩ | ⟨b1, b2, b3⟩ | ⟨b1, b2, b3⟩ | ⟨b1, b2, b3⟩
    · omega
    · have eq : q = q' := RN.un (a3.cg cS) b3
      subst eq
      have hpq : p < q := by
        rcases Nat.lt_or_ge p q with e | e
        · exact e
        · have e2 : q = p := by have := a3.1; omega
          rw [e2] at a3
          exact absurd a2 (a3.2.2.2 a1)
      have e5 : ∀ k, k ≤ q - p → P5 (c 2) p k = P5 (mb d) p k := fun k hk => P5_cg k (fun i hi => eqs (p + i) (by have := a3.2.1; omega) (b3.2.2.1 (p + i) (by omega) (by omega)))
      rw [e5 (q - p) (Nat.le_refl _)] at a5
      refine Or.inr (Or.inl ⟨q, hpq, a3.2.1, a4, b4, b5, b3.2.2.1, ?_⟩)
      rcases a5 with z | ⟨z1, z2, ⟨i, z3, z4, z5, z6⟩ | ⟨z3, z4, z5⟩⟩
      · exact Or.inl z
      · exact Or.inr ⟨z1, z2, Or.inl ⟨i, z3, by rw [← h7.1 i z3]; exact z4, z5, z6⟩⟩
      · exact Or.inr ⟨z1, z2, Or.inr ⟨fun i hi => by rw [← h7.1 i hi]; exact z3 i hi, z4, z5⟩⟩
    · exact absurd b2 (sd _ hs).1
    · exact absurd b2 (sd _ hs).2
    · exact absurd hs b2
  · have hs := (cD p a1).mp a2
    rcases hT' with ⟨b1, b2⟩ | ⟨b1, b2, b3⟩ | ⟨b1, b2, q', b3, b4, b5⟩ | ⟨b1, b2, b3⟩ | ⟨b1, b2, b3, b4⟩
    · omega
    · exact absurd hs (sd _ b2).1
    · have eq : q = q' := RN.un (a3.cg cD) b3
      subst eq
      have hpq : p < q := by
        rcases Nat.lt_or_ge p q with e | e
        · exact e
        · have e2 : q = p := by have := a3.1; omega
          rw [e2] at a3
          exact absurd a2 (a3.2.2.2 a1)
      have ed : DC (c 2) p (q - p) = DC (mb d) p (q - p) := DC_cg (q - p) (fun i hi => eqd (p + i) (by have := a3.2.1; omega) (b3.2.2.1 (p + i) (by omega) (by omega)))
      rcases a6 with ⟨z1, z2⟩ | ⟨z1, z2, z3⟩
      · rcases b5 with ⟨y1, y2⟩ | ⟨y1, y2, y3⟩
        · exact Or.inr (Or.inr (Or.inr (Or.inr ⟨⟨z2, a1⟩, y2, a5⟩)))
        · omega
      · rcases b5 with ⟨y1, y2⟩ | ⟨y1, y2, y3⟩
        · omega
        · exact Or.inr (Or.inr (Or.inl ⟨q, ⟨hpq, a3.2.1⟩, a4, b4, z2, y2, by rw [z3, y3, ed], a5⟩))
    · exact absurd b2 (dg _ hs)
    · exact absurd hs b3
  · have hs := (cG p a1).mp a2
    rcases hT' with ⟨b1, b2⟩ | ⟨b1, b2, b3⟩ | ⟨b1, b2, b3⟩ | ⟨b1, b2, b3, b4, b5⟩ | ⟨b1, b2, b3, b4, b5⟩
    · omega
    · exact absurd hs (sd _ b2).2
    · exact absurd hs (dg _ b2)
    · refine Or.inr (Or.inr (Or.inr (Or.inl ⟨p + 1, ⟨by omega, by omega⟩, by rw [a3]; rfl, by rw [b3]; rfl, a4, b4, ?_, a6⟩)))
      rw [a5, b5, hbb p a1]
      have := h4 p (by omega)
      unfold sgn at a2
      omega
    · exact absurd hs b4
  · rcases hT' with ⟨b1, b2⟩ | ⟨b1, b2, b3⟩ | ⟨b1, b2, b3⟩ | ⟨b1, b2, b3⟩ | ⟨b1, b2, b3, b4, b5⟩
    · omega
    · exact absurd ((cS p a1).mpr b2) a2
    · exact absurd ((cD p a1).mpr b2) a3
    · exact absurd ((cG p a1).mpr b2) a4
    · exact Or.inr (Or.inr (Or.inr (Or.inr ⟨⟨a5, a1⟩, b5, a6⟩)))
theorem kw5 : ∀ k, k < 25 → ∀ k', k' < 25 → P5 KC (ks k) (ke k - ks k) = P5 KC (ks k') (ke k' - ks k') → k = k' := by decide +kernel
theorem MW_P5 {d : cg} {p q k : Nat} (hk : k < 25) (h : MW d p q k) : P5 KC (ks k) (ke k - ks k) = P5 (mb d) p (q - p) := by
  rw [h.1]
  exact P5_cg (q - p) (fun i hi => h.2 i hi)
theorem MW_of {d : cg} {p q k : Nat} (hk : k < 25) (hpq : p ≤ q) (hs : ∀ j, p ≤ j → j < q → sml (mb d j)) (h : P5 KC (ks k) (ke k - ks k) = P5 (mb d) p (q - p)) : MW d p q k := by
  obtain ⟨w1, w2, w3, w4, w5⟩ := kw1 k hk
  obtain ⟨e1, e2⟩ := P5_inj (ke k - ks k) (q - p) (fun j a c => kw2 k hk j (by omega) a (by omega)) (fun j a c => hs j a (by omega)) h
  exact ⟨e1, fun i hi => e2 i (by omega)⟩
/-- the key, on both sides -/
theorem tq_key {n : Nat} {lf : dlf} {c d d1 : cg} {m : Nat} {r : Int} (hE : TE c d m) (hT : TQ c d m) (h : zr sv L n 172 0 lf [] d (d1, some (0, r))) (h0 : lf 0 = (4, 253)) (h1 : lf 1 = (6, 3)) : d1 = d ∧ ((c 88 7 = -1 ∧ r = -1) ∨ ∃ i : Nat, i < 25 ∧ c 88 7 = (i : Int) ∧ r = (km i : Int)) := by
  obtain ⟨p, hp, hp', hpm, hT⟩ := hT
  have hm9 := hE.1
  have hm := hE.2.2.1
  have hB := hE.2.2.2.2.1
  have no : ∀ q : Nat, d 253 12 ≠ 2 → c 88 7 = -1 → d1 = d ∧ ((c 88 7 = -1 ∧ r = -1) ∨ ∃ i : Nat, i < 25 ∧ c 88 7 = (i : Int) ∧ r = (km i : Int)) := by
    intro q hn hk
    obtain ⟨e1, e2⟩ := inw_ok (p := p) (q := q) (m := m) h h0 h1 hp' (fun e => absurd e hn) hm hm9 hB
    rcases e2 with ⟨z1, z2⟩ | ⟨z1, z2⟩
    · exact ⟨e1, Or.inl ⟨hk, z2⟩⟩
    · exact absurd z1 hn
  rcases hT with ⟨a1, a2, a3⟩ | ⟨q, a1, a2, a3, a4, a5, a6, a7⟩ | ⟨q, a1, a2, a3, a4, a5, a6, a7⟩ | ⟨q, a1, a2, a3, a4, a5, a6, a7⟩ | ⟨a1, a2, a3⟩
  · exact no 0 (by omega) a3
  · obtain ⟨e1, e2⟩ := inw_ok (p := p) (q := q) (m := m) h h0 h1 hp' (fun _ => ⟨a4, by omega, a2⟩) hm hm9 hB
    refine ⟨e1, ?_⟩
    rcases e2 with ⟨z1, z2⟩ | ⟨z1, z2⟩
    · exact absurd a5 z1
    · rcases a7 with ⟨y1, y2, y3⟩ | ⟨y1, y2, ⟨i, y3, y4, y5, y6⟩ | ⟨y3, y4, y5⟩⟩
      · rcases z2 with ⟨k, k1, k2, k3⟩ | ⟨k1, k2⟩
        · have := (kw1 k k1).2.1
          have := k2.1
          omega
        · exact Or.inl ⟨y3, k2⟩
      · have hk := kw3 i y3
        have hW := MW_of (d := d) (p := p) (q := q) hk.1 (by omega) a6 (by rw [← hk.2]; exact y4)
        rcases z2 with ⟨k, k1, k2, k3⟩ | ⟨k1, k2⟩
        · have e := kw5 k k1 (km i) hk.1 (by rw [MW_P5 k1 k2, MW_P5 hk.1 hW])
          exact Or.inr ⟨i, y3, y5, by rw [k3, e]⟩
        · exact absurd hW (k1 (km i) hk.1)
      · rcases z2 with ⟨k, k1, k2, k3⟩ | ⟨k1, k2⟩
        · obtain ⟨i, i1, i2⟩ := kw4 k k1
          have hk := kw3 i i1
          exact absurd (by rw [hk.2, i2]; exact MW_P5 k1 k2) (y3 i i1)
        · exact Or.inl ⟨y4, k2⟩
  · exact no 0 (by omega) a7
  · exact no 0 (by omega) a7
  · exact no 0 (by omega) a3
/-- a name, on both sides -/
theorem tq_name {n : Nat} {lf : dlf} {c d d1 : cg} {m : Nat} {r : Int} (hE : TE c d m) (hT : TQ c d m) (h : zr sv L n 181 0 lf [] d (d1, some (0, r))) (h0 : lf 0 = (4, 253)) (h1 : lf 1 = (6, 3)) : d1 = d ∧ ((c 88 4 = 2 ∧ r = 1) ∨ (c 88 4 ≠ 2 ∧ r = 0)) := by
  have hT0 := hT
  obtain ⟨p, hp, hp', hpm, hT⟩ := hT
  have hm9 := hE.1
  rcases t_isName h h0 h1 with ⟨hc, h⟩ | ⟨hc, ⟨hd, h⟩ | ⟨hd, g3, r4, k1, h⟩⟩
  · obtain ⟨e1, e2⟩ := oI h
    refine ⟨e1, Or.inr ⟨fun e => ?_, e2⟩⟩
    rcases hT with ⟨a1, a2, a3⟩ | ⟨q, a1, a2, a3, a4, a5, a6, a7⟩ | ⟨q, a1, a2, a3, a4, a5, a6, a7⟩ | ⟨q, a1, a2, a3, a4, a5, a6, a7⟩ | ⟨a1, a2, a3⟩ <;> omega
  · obtain ⟨e1, e2⟩ := oI h
    refine ⟨e1, Or.inr ⟨fun e => ?_, e2⟩⟩
    rcases hT with ⟨a1, a2, a3⟩ | ⟨q, a1, a2, a3, a4, a5, a6, a7⟩ | ⟨q, a1, a2, a3, a4, a5, a6, a7⟩ | ⟨q, a1, a2, a3, a4, a5, a6, a7⟩ | ⟨a1, a2, a3⟩
    · omega
    · rw [a4, hp', w32_id (by omega) (by omega)] at hd
      rcases a7 with ⟨y1, y2, y3⟩ | ⟨y1, y2, y3⟩ <;> omega
    all_goals omega
  · obtain ⟨e1, e2⟩ := tq_key hE hT0 k1 rfl rfl
    have key : (r4 = -1 ∧ c 88 4 = 2) ∨ (r4 ≠ -1 ∧ c 88 4 ≠ 2) := by
      rcases hT with ⟨a1, a2, a3⟩ | ⟨q, a1, a2, a3, a4, a5, a6, a7⟩ | ⟨q, a1, a2, a3, a4, a5, a6, a7⟩ | ⟨q, a1, a2, a3, a4, a5, a6, a7⟩ | ⟨a1, a2, a3⟩
      · omega
      · rw [a4, hp', w32_id (by omega) (by omega)] at hd
        rcases a7 with ⟨y1, y2, y3⟩ | ⟨y1, y2, ⟨i, y3, y4, y5, y6⟩ | ⟨y3, y4, y5⟩⟩
        · omega
        · rcases e2 with ⟨z1, z2⟩ | ⟨i', z1, z2, z3⟩ <;> omega
        · rcases e2 with ⟨z1, z2⟩ | ⟨i', z1, z2, z3⟩ <;> omega
      all_goals omega
    rcases h with ⟨hx, h⟩ | ⟨hx, h⟩
    · obtain ⟨b1, b2⟩ := oI h
      refine ⟨by rw [b1, e1], Or.inr ⟨?_, b2⟩⟩
      rcases key with ⟨z1, z2⟩ | ⟨z1, z2⟩
      · exact absurd z1 hx
      · exact z2
    · obtain ⟨b1, b2⟩ := oI h
      refine ⟨by rw [b1, e1], Or.inl ⟨?_, b2⟩⟩
      rcases key with ⟨z1, z2⟩ | ⟨z1, z2⟩
      · exact z2
      · exact absurd hx z1
/-- a name's two numbers -/
def NR (x x' : Int) : Prop := ∃ (b : Nat → Int) (p k : Nat), k ≤ 8 ∧ (∀ j, p ≤ j → j < p + k → sml (b j)) ∧ x = P5 b p k ∧ x' = P8 b p k
theorem NR_eq {x x' y y' : Int} (h : NR x x') (h' : NR y y') : x = y ↔ x' = y' := by
  obtain ⟨b, p, k, k8, hs, e1, e2⟩ := h
  obtain ⟨b', p', k', k8', hs', e1', e2'⟩ := h'
  constructor
  · intro e
    rw [e1, e1'] at e
    obtain ⟨i1, i2⟩ := P5_inj k k' hs hs' e
    subst i1
    rw [e2, e2']
    exact P8_cg k i2
  · intro e
    rw [e2, e2'] at e
    obtain ⟨i1, i2⟩ := P8_inj k k' hs hs' e
    subst i1
    rw [e1, e1']
    exact P5_cg k i2
theorem tq_nm {n : Nat} {lf : dlf} {c d d1 : cg} {m : Nat} {r : Int} (hE : TE c d m) (hT : TQ c d m) (hk : c 88 4 = 2) (h : zr sv L n 183 0 lf [] d (d1, some (2, r))) (h0 : lf 0 = (4, 253)) : d1 = d ∧ NR (c 88 6) r ∧ ∃ p q : Nat, d 253 13 = (p : Int) ∧ d 253 14 = (q : Int) ∧ r = P8 (mb d) p (q - p) := by
  obtain ⟨p, hp, hp', hpm, hT⟩ := hT
  rcases hT with ⟨a1, a2, a3⟩ | ⟨q, a1, a2, a3, a4, a5, a6, a7⟩ | ⟨q, a1, a2, a3, a4, a5, a6, a7⟩ | ⟨q, a1, a2, a3, a4, a5, a6, a7⟩ | ⟨a1, a2, a3⟩
  · omega
  · rcases a7 with ⟨y1, y2, y3⟩ | ⟨y1, y2, y3⟩
    · omega
    · obtain ⟨e1, e2⟩ := nam_ok (p := p) (q := q) (m := m) h h0 hp' a4 (by omega) a2 hE.2.2.1 hE.1 hE.2.2.2.2.1 y1 a6
      exact ⟨e1, ⟨mb d, p, q - p, y1, fun j z1 z2 => a6 j z1 (by omega), y2, e2⟩, p, q, hp', a4, e2⟩
  all_goals omega
end Sim
end
section
/-! what is passed, on both sides -/
def FLT (c d : cg) : Prop := c 88 10 = d 253 18 ∧ 0 < c 88 10 ∧ c 88 11 = d 253 17
def FTM (c' c : cg) : Prop := FT c' c ∧ c 88 5 ≤ c' 88 5
def SU (c d c' d' : cg) (m : Nat) : Prop := FTM c' c ∧ FM d' d ∧ TE c' d' m ∧ TQ c' d' m
theorem TE.up {c d c' d' : cg} {m : Nat} (h : TE c d m) (h1 : c' 88 = c 88) (h2 : c' 2 = c 2) (h3 : c' 89 = c 89) (h4 : d' 253 = d 253) (h5 : d' 260 = d 260) : TE c' d' m := by
  unfold TE MBY at *
  rw [h1, h2, h3, h4, h5]
  exact h
theorem TQ.up {c d c' d' : cg} {m : Nat} (h : TQ c d m) (h1 : c' 88 = c 88) (h4 : d' 253 = d 253) (h5 : d' 260 = d 260) : TQ c' d' m := by
  have hb : mb d' = mb d := by
    funext j
    unfold mb
    rw [h5]
  unfold TQ at *
  rw [h1, h4, hb]
  exact h
section Pair
variable {sv : Nat → Int32} {L : Nat} {n n' : Nat} {lf lf' : dlf} {c d c' d' : cg} {m : Nat} {r r' : Int}
theorem tq_bad (hT : TQ c d m) : c 88 4 = 6 ↔ d 253 12 = 1 := by
  obtain ⟨p, hp, hp', hpm, hT⟩ := hT
  rcases hT with ⟨a1, a2, a3⟩ | ⟨q, a1, a2, a3, a4, a5, a6, a7⟩ | ⟨q, a1, a2, a3, a4, a5, a6, a7⟩ | ⟨q, a1, a2, a3, a4, a5, a6, a7⟩ | ⟨a1, a2, a3⟩
  · omega
  · rcases a7 with ⟨y1, y2, y3⟩ | ⟨y1, y2, ⟨i, y3, y4, y5, y6⟩ | ⟨y3, y4, y5⟩⟩ <;> omega
  all_goals omega
theorem tq_pos (hT : TQ c d m) (hk : c 88 4 = 1 ∨ c 88 4 = 2 ∨ c 88 4 = 4 ∨ c 88 4 = 5) : ∃ q : Nat, q ≤ m ∧ c 88 3 = (q : Int) ∧ d 253 14 = (q : Int) := by
  obtain ⟨p, hp, hp', hpm, hT⟩ := hT
  rcases hT with ⟨a1, a2, a3⟩ | ⟨q, a1, a2, a3, a4, a5, a6, a7⟩ | ⟨q, a1, a2, a3, a4, a5, a6, a7⟩ | ⟨q, a1, a2, a3, a4, a5, a6, a7⟩ | ⟨a1, a2, a3⟩
  · omega
  · exact ⟨q, a2, a3, a4⟩
  · exact ⟨q, a1.2, a2, a3⟩
  · exact ⟨q, a1.2, a2, a3⟩
  · omega
theorem tq_lt (hT : TQ c d m) (hk : c 88 4 = 1 ∨ c 88 4 = 2 ∨ c 88 4 = 4 ∨ c 88 4 = 5) : c 88 5 < c 88 3 := by
  obtain ⟨p, hp, hp', hpm, hT⟩ := hT
  rcases hT with ⟨a1, a2, a3⟩ | ⟨q, a1, a2, a3, a4⟩ | ⟨q, a1, a2, a3⟩ | ⟨q, a1, a2, a3⟩ | ⟨a1, a2, a3⟩ <;> omega
theorem adv_lt (hE : TE c d m) (hT : TQ c d m) (hk : c 88 4 = 1 ∨ c 88 4 = 2 ∨ c 88 4 = 4 ∨ c 88 4 = 5) (h : zr sv L n 37 0 lf [] c (c', none)) (h0 : lf 0 = (4, 88)) : FT c' c ∧ c 88 5 < c' 88 5 := by
  obtain ⟨q, q1, q2, q3⟩ := tq_pos hT hk
  have hl := tq_lt hT hk
  obtain ⟨h1, h2, -⟩ := hE
  obtain ⟨f1, p, hR, hp, -⟩ := adv_ok h0 q2 h2 q1 h1 h
  dsimp only at f1 hp
  have := hR.1
  exact ⟨f1, by omega⟩
theorem tq_kk (hT : TQ c d m) (hk : c 88 7 ≠ -1) : c 88 4 = 1 := by
  obtain ⟨p, hp, hp', hpm, hT⟩ := hT
  rcases hT with ⟨a1, a2, a3⟩ | ⟨q, a1, a2, a3, a4, a5, a6, a7⟩ | ⟨q, a1, a2, a3, a4, a5, a6, a7⟩ | ⟨q, a1, a2, a3, a4, a5, a6, a7⟩ | ⟨a1, a2, a3⟩
  · exact absurd a3 hk
  · rcases a7 with ⟨y1, y2, y3⟩ | ⟨y1, y2, ⟨i, y3, y4, y5, y6⟩ | ⟨y3, y4, y5⟩⟩
    · exact absurd y3 hk
    · exact y6
    · exact absurd y4 hk
  · exact absurd a7 hk
  · exact absurd a7 hk
  · exact absurd a3 hk
theorem tq_kinds (hT : TQ c d m) : (c 88 4 = 0 ↔ d 253 12 = 0) ∧ (c 88 4 = 4 ↔ d 253 12 = 3) ∧ (c 88 4 = 4 → c 88 8 = d 253 15) ∧ (c 88 4 = 5 ↔ d 253 12 = 4) ∧ (c 88 4 = 5 → c 88 9 = d 253 15) := by
  obtain ⟨p, hp, hp', hpm, hT⟩ := hT
  rcases hT with ⟨a1, a2, a3⟩ | ⟨q, a1, a2, a3, a4, a5, a6, a7⟩ | ⟨q, a1, a2, a3, a4, a5, a6, a7⟩ | ⟨q, a1, a2, a3, a4, a5, a6, a7⟩ | ⟨a1, a2, a3⟩
  · omega
  · rcases a7 with ⟨y1, y2, y3⟩ | ⟨y1, y2, ⟨i, y3, y4, y5, y6⟩ | ⟨y3, y4, y5⟩⟩ <;> omega
  all_goals omega
theorem tq_st (hT : TQ c d m) : c 88 5 = d 253 13 := by
  obtain ⟨p, hp, hp', -⟩ := hT
  rw [hp, hp']
/-- a fault -/
theorem fail_pr {k : Int} (hT : TQ c d m) (hf : d 253 18 = 0) (hk : 0 < k) (h : zr sv L n 39 0 lf [] c (c', some (0, r))) (h0 : lf 0 = (4, 88)) (h1 : lf 1 = (0, k)) (h' : zr sv L n' 173 0 lf' [] d (d', some (0, r'))) (h0' : lf' 0 = (4, 253)) (h1' : lf' 1 = (0, k)) : r = 0 ∧ r' = 0 ∧ FLT c' d' := by
  have hb := tq_bad hT
  have hs := tq_st hT
  rcases t_fails h' h0' h1' with ⟨x1, x2⟩ | ⟨x1, ⟨x2, x3⟩ | ⟨x2, x3⟩⟩
  · exact absurd hf x1
  · obtain ⟨e1, e2⟩ := oI x3
    rcases t_fail h h0 h1 with ⟨y1, y2⟩ | ⟨y1, y2⟩
    · obtain ⟨e3, e4⟩ := oI y2
      refine ⟨e4, e2, ?_, ?_, ?_⟩
      · rw [e1, e3, cup_ne (by decide), cup_at, cup_ne (by decide), cup_at]
      · rw [e3, cup_ne (by decide), cup_at]; exact hk
      · rw [e1, e3, cup_at, cup_at]; exact hs
    · exact absurd (hb.mp y1) x2
  · obtain ⟨e1, e2⟩ := oI x3
    rcases t_fail h h0 h1 with ⟨y1, y2⟩ | ⟨y1, y2⟩
    · exact absurd (hb.mpr x2) y1
    · obtain ⟨e3, e4⟩ := oI y2
      refine ⟨e4, e2, ?_, ?_, ?_⟩
      · rw [e1, e3, cup_ne (by decide), cup_at, cup_ne (by decide), cup_at]
      · rw [e3, cup_ne (by decide), cup_at]; decide
      · rw [e1, e3, cup_at, cup_at]; exact hs
theorem kw6 : ∀ i, i < 25 → ∀ j, j < 25 → km i = km j → i = j := by decide +kernel
theorem adv_su {c0 : cg} (hE : TE c d m) (hT : TQ c d m) (hk : c 88 4 = 1 ∨ c 88 4 = 2 ∨ c 88 4 = 4 ∨ c 88 4 = 5) (h : zr sv L n 37 0 lf [] c (c', none)) (h0 : lf 0 = (4, 88)) (h' : zr sv L n' 166 0 lf' [] d (d', none)) (h0' : lf' 0 = (4, 253)) : SU c d c' d' m := by
  obtain ⟨q, q1, q2, q3⟩ := tq_pos hT hk
  obtain ⟨x1, x2, x3, x4⟩ := adv_ahd hE q2 q3 q1 h h0 h' h0'
  exact ⟨⟨x1, Int.le_of_lt (adv_lt hE hT hk h h0).2⟩, x2, x3, x4⟩
/-- pass(key) and wantWord(KEYS, key) -/
theorem pass_pr {i : Nat} (hi : i < 25) (hE : TE c d m) (hT : TQ c d m) (hf : d 253 18 = 0) (h : zr sv L n 46 0 lf [] c (c', some (0, r))) (h0 : lf 0 = (4, 88)) (h1 : lf 1 = (0, (i : Int))) (h' : zr sv L n' 184 0 lf' [] d (d', some (0, r'))) (h0' : lf' 0 = (4, 253)) (h1' : lf' 1 = (6, 3)) (h2' : lf' 2 = (0, (km i : Int))) : (r = 1 ∧ r' = 1 ∧ SU c d c' d' m) ∨ (r = 0 ∧ r' = 0 ∧ FLT c' d') := by
  obtain ⟨g1, r2, k1, h'⟩ := t_wantWord h' h0' h1' h2'
  obtain ⟨e1, e2⟩ := tq_key hE hT k1 rfl rfl
  rw [e1] at h'
  have hkey : c 88 7 = (i : Int) ↔ r2 = (km i : Int) := by
    rcases e2 with ⟨z1, z2⟩ | ⟨j, z1, z2, z3⟩
    · omega
    · constructor
      · intro e
        have : j = i := by omega
        rw [z3, this]
      · intro e
        have := kw6 j z1 i hi (by omega)
        rw [z2, this]
  rcases t_pass h h0 h1 with ⟨x1, g2, k2, x2⟩ | ⟨x1, g3, r4, k2, x2⟩
  · obtain ⟨e3, e4⟩ := oI x2
    rcases h' with ⟨y1, g4, k3, y2⟩ | ⟨y1, y2⟩
    · obtain ⟨e5, e6⟩ := oI y2
      refine Or.inl ⟨e4, e6, ?_⟩
      rw [e3, e5]
      exact adv_su (c0 := c) hE hT (Or.inl (tq_kk hT (by omega))) k2 rfl k3 rfl
    · exact absurd (hkey.mp x1) y1
  · obtain ⟨e3, e4⟩ := oI x2
    rcases h' with ⟨y1, y2⟩ | ⟨y1, g5, r6, k3, y2⟩
    · exact absurd (hkey.mpr y1) x1
    · obtain ⟨e5, e6⟩ := oI y2
      obtain ⟨z1, z2, z3⟩ := fail_pr hT hf (by decide) k2 rfl rfl k3 rfl rfl
      refine Or.inr ⟨by rw [e4, z1], by rw [e6, z2], ?_⟩
      rw [e3, e5]
      exact z3
/-- passIfThere(key) and isThere(key) -/
theorem thr_pr {i : Nat} (hi : i < 25) (hE : TE c d m) (hT : TQ c d m) (h : zr sv L n 57 0 lf [] c (c', some (0, r))) (h0 : lf 0 = (4, 88)) (h1 : lf 1 = (0, (i : Int))) (h' : zr sv L n' 189 0 lf' [] d (d', some (0, r'))) (h0' : lf' 0 = (4, 253)) (h1' : lf' 1 = (0, (km i : Int))) : (r = 1 ∧ r' = 1 ∧ SU c d c' d' m) ∨ (r = 0 ∧ r' = 0 ∧ c' = c ∧ d' = d) := by
  obtain ⟨g1, r2, k1, h'⟩ := t_isThere h' h0' h1'
  obtain ⟨e1, e2⟩ := tq_key hE hT k1 rfl rfl
  rw [e1] at h'
  have hkey : c 88 7 = (i : Int) ↔ r2 = (km i : Int) := by
    rcases e2 with ⟨z1, z2⟩ | ⟨j, z1, z2, z3⟩
    · omega
    · constructor
      · intro e
        have : j = i := by omega
        rw [z3, this]
      · intro e
        have := kw6 j z1 i hi (by omega)
        rw [z2, this]
  rcases t_passIf h h0 h1 with ⟨x1, g2, k2, x2⟩ | ⟨x1, x2⟩
  · obtain ⟨e3, e4⟩ := oI x2
    rcases h' with ⟨y1, g4, k3, y2⟩ | ⟨y1, y2⟩
    · obtain ⟨e5, e6⟩ := oI y2
      refine Or.inl ⟨e4, e6, ?_⟩
      rw [e3, e5]
      exact adv_su (c0 := c) hE hT (Or.inl (tq_kk hT (by omega))) k2 rfl k3 rfl
    · exact absurd (hkey.mp x1) y1
  · obtain ⟨e3, e4⟩ := oI x2
    rcases h' with ⟨y1, y2⟩ | ⟨y1, y2⟩
    · exact absurd (hkey.mpr y1) x1
    · obtain ⟨e5, e6⟩ := oI y2
      exact Or.inr ⟨e4, e6, e3, e5⟩
/-- passStop() and wantSign(';') -/
theorem stop_pr (hE : TE c d m) (hT : TQ c d m) (hf : d 253 18 = 0) (h : zr sv L n 42 0 lf [] c (c', some (0, r))) (h0 : lf 0 = (4, 88)) (h' : zr sv L n' 176 0 lf' [] d (d', some (0, r'))) (h0' : lf' 0 = (4, 253)) (h1' : lf' 1 = (0, 59)) : (r = 1 ∧ r' = 1 ∧ SU c d c' d' m) ∨ (r = 0 ∧ r' = 0 ∧ FLT c' d') := by
  obtain ⟨t1, t2, t3, t4, t5⟩ := tq_kinds hT
  obtain ⟨g1, r2, k1, h'⟩ := t_wantSign h' h0' h1'
  have hsg : g1 = d ∧ ((r2 = 1 ∧ d 253 12 = 4 ∧ d 253 15 = 59) ∨ (r2 = 0 ∧ ¬ (d 253 12 = 4 ∧ d 253 15 = 59))) := by
    rcases t_isSign k1 rfl rfl with ⟨x1, x2⟩ | ⟨x1, ⟨x2, x3⟩ | ⟨x2, x3⟩⟩
    · obtain ⟨e1, e2⟩ := oI x2
      exact ⟨e1, Or.inr ⟨e2, fun e => x1 e.1⟩⟩
    · obtain ⟨e1, e2⟩ := oI x3
      exact ⟨e1, Or.inr ⟨e2, fun e => x2 e.2⟩⟩
    · obtain ⟨e1, e2⟩ := oI x3
      exact ⟨e1, Or.inl ⟨e2, x1, x2⟩⟩
  obtain ⟨e1, e2⟩ := hsg
  rw [e1] at h'
  have no : ¬ (c 88 4 = 5 ∧ c 88 9 = 59) → ∀ {g3 : cg} {r4 : Int}, zr sv L n 39 0 (darg 0 [(4, 88), (0, 2)]) [] c (g3, some (0, r4)) → c' = g3 → r = r4 → (r = 1 ∧ r' = 1 ∧ SU c d c' d' m) ∨ (r = 0 ∧ r' = 0 ∧ FLT c' d') := by
    intro hn g3 r4 k2 e3 e4
    rcases h' with ⟨y1, y2⟩ | ⟨y1, g5, r6, k3, y2⟩
    · exfalso
      rcases e2 with ⟨z1, z2, z3⟩ | ⟨z1, z2⟩
      · have h5 := t4.mpr z2
        exact hn ⟨h5, by rw [t5 h5]; exact z3⟩
      · exact y1 z1
    · obtain ⟨e5, e6⟩ := oI y2
      obtain ⟨z1, z2, z3⟩ := fail_pr hT hf (by decide) k2 rfl rfl k3 rfl rfl
      refine Or.inr ⟨by rw [e4, z1], by rw [e6, z2], ?_⟩
      rw [e3, e5]
      exact z3
  rcases t_passStop h h0 with ⟨x1, g3, r4, k2, x2⟩ | ⟨x1, ⟨x3, g2, k2, x2⟩ | ⟨x3, g3, r4, k2, x2⟩⟩
  · obtain ⟨e3, e4⟩ := oI x2
    exact no (fun e => x1 e.1) k2 e3 e4
  · obtain ⟨e3, e4⟩ := oI x2
    rcases h' with ⟨y1, g4, k3, y2⟩ | ⟨y1, y2⟩
    · obtain ⟨e5, e6⟩ := oI y2
      refine Or.inl ⟨e4, e6, ?_⟩
      rw [e3, e5]
      exact adv_su (c0 := c) hE hT (Or.inr (Or.inr (Or.inr x1))) k2 rfl k3 rfl
    · exfalso
      rcases e2 with ⟨z1, z2, z3⟩ | ⟨z1, z2⟩
      · omega
      · exact z2 ⟨t4.mp x1, by rw [← t5 x1]; exact x3⟩
  · obtain ⟨e3, e4⟩ := oI x2
    exact no (fun e => x3 e.2) k2 e3 e4
/-- passNumber(low, high) and number(to, least, most) -/
theorem num_pr {lo hi to : Int} (hlo : 0 ≤ lo) (hE : TE c d m) (hT : TQ c d m) (hf : d 253 18 = 0) (h : zr sv L n 41 0 lf [] c (c', some (0, r))) (h0 : lf 0 = (4, 88)) (h1 : lf 1 = (0, lo)) (h2 : lf 2 = (0, hi)) (h' : zr sv L n' 175 0 lf' [] d (d', some (0, r'))) (h0' : lf' 0 = (4, 253)) (h1' : lf' 1 = (0, to)) (h2' : lf' 2 = (0, lo)) (h3' : lf' 3 = (0, hi)) : (r' = 1 ∧ lo ≤ r ∧ r ≤ hi ∧ SU c (cup d 254 to.toNat r) c' d' m) ∨ (r = -1 ∧ r' = 0 ∧ FLT c' d') := by
  obtain ⟨t1, t2, t3, t4, t5⟩ := tq_kinds hT
  have h' := t_number h' h0' h1' h2' h3'
  have no2 : c 88 4 ≠ 4 → ∀ {g3 : cg} {r4 : Int}, zr sv L n 39 0 (darg 0 [(4, 88), (0, 2)]) [] c (g3, some (0, r4)) → c' = g3 → r = -1 → (r' = 1 ∧ lo ≤ r ∧ r ≤ hi ∧ SU c (cup d 254 to.toNat r) c' d' m) ∨ (r = -1 ∧ r' = 0 ∧ FLT c' d') := by
    intro hn g3 r4 k2 e3 e4
    rcases h' with ⟨y1, y2⟩ | ⟨y1, g5, r6, k3, y2⟩
    · exact absurd (t2.mpr y1) hn
    · obtain ⟨e5, e6⟩ := oI y2
      obtain ⟨z1, z2, z3⟩ := fail_pr hT hf (by decide) k2 rfl rfl k3 rfl rfl
      refine Or.inr ⟨e4, by rw [e6, z2], ?_⟩
      rw [e3, e5]
      exact z3
  have no4 : c 88 4 = 4 → (c 88 8 < lo ∨ hi < c 88 8) → ∀ {g3 : cg} {r4 : Int}, zr sv L n 39 0 (darg 0 [(4, 88), (0, 4)]) [] c (g3, some (0, r4)) → c' = g3 → r = -1 → (r' = 1 ∧ lo ≤ r ∧ r ≤ hi ∧ SU c (cup d 254 to.toNat r) c' d' m) ∨ (r = -1 ∧ r' = 0 ∧ FLT c' d') := by
    intro hn hv g3 r4 k2 e3 e4
    have e8 := t3 hn
    have fin : ∀ {g5 : cg} {r6 : Int}, zr sv L n' 173 0 (darg 0 [(4, 253), (0, 4)]) [] d (g5, some (0, r6)) → d' = g5 → r' = r6 → (r' = 1 ∧ lo ≤ r ∧ r ≤ hi ∧ SU c (cup d 254 to.toNat r) c' d' m) ∨ (r = -1 ∧ r' = 0 ∧ FLT c' d') := by
      intro g5 r6 k3 e5 e6
      obtain ⟨z1, z2, z3⟩ := fail_pr hT hf (by decide) k2 rfl rfl k3 rfl rfl
      refine Or.inr ⟨e4, by rw [e6, z2], ?_⟩
      rw [e3, e5]
      exact z3
    rcases h' with ⟨y1, ⟨y2, g5, r6, k3, y3⟩ | ⟨y2, ⟨y3, y4⟩ | ⟨y3, g5, r6, k3, y4⟩⟩⟩ | ⟨y1, y2⟩
    · obtain ⟨e5, e6⟩ := oI y3
      exact fin k3 e5 e6
    · omega
    · obtain ⟨e5, e6⟩ := oI y4
      exact fin k3 e5 e6
    · exact absurd (t2.mp hn) y1
  rcases t_passNum h h0 h1 h2 with ⟨x1, g3, r4, k2, x2⟩ | ⟨x1, ⟨x3, g3, r4, k2, x2⟩ | ⟨x3, ⟨x4, g2, k2, x2⟩ | ⟨x4, g3, r4, k2, x2⟩⟩⟩
  · obtain ⟨e3, e4⟩ := oI x2
    exact no2 x1 k2 e3 e4
  · obtain ⟨e3, e4⟩ := oI x2
    exact no4 x1 (Or.inl x3) k2 e3 e4
  · obtain ⟨e3, e4⟩ := oI x2
    have e8 := t3 x1
    rcases h' with ⟨y1, ⟨y2, g5, r6, k3, y3⟩ | ⟨y2, ⟨y3, g4, k3, y4⟩ | ⟨y3, g5, r6, k3, y4⟩⟩⟩ | ⟨y1, y2⟩
    · omega
    · obtain ⟨e5, e6⟩ := oI y4
      refine Or.inl ⟨e6, by omega, by omega, ?_⟩
      rw [e3, e5, e4, e8]
      have d3 : cup d 254 to.toNat (d 253 15) 253 = d 253 := cup_row d _ _ (by decide)
      have d6 : cup d 254 to.toNat (d 253 15) 260 = d 260 := cup_row d _ _ (by decide)
      exact adv_su (c0 := c) (hE.up rfl rfl rfl d3 d6) (hT.up rfl d3 d6) (Or.inr (Or.inr (Or.inl x1))) k2 rfl k3 rfl
    · omega
    · exact absurd (t2.mp x1) y1
  · obtain ⟨e3, e4⟩ := oI x2
    exact no4 x1 (Or.inr x4) k2 e3 e4
end Pair
end
section
/-! names looked up, on both sides -/
def NP (c d : cg) (n : Nat) : Prop := ∀ i : Nat, i < n → NR (c 47 i) (d 255 (48 + i))
def NQ (c d : cg) (n : Nat) : Prop := ∀ i : Nat, i < n → NR (c (59 + 2 * i) 0) (d 255 (53 + i))
/-- where w first is among the first n, or not -/
def FI (f : Nat → Int) (n : Nat) (w r : Int) : Prop := (∃ k : Nat, k < n ∧ f k = w ∧ (∀ j, j < k → f j ≠ w) ∧ r = (k : Int)) ∨ ((∀ k, k < n → f k ≠ w) ∧ r = -1)
theorem FI_eq {f f' : Nat → Int} {n : Nat} {w w' r r' : Int} (h : FI f n w r) (h' : FI f' n w' r') (he : ∀ i, i < n → (f i = w ↔ f' i = w')) : r = r' ∧ (r = -1 ∨ ∃ i : Nat, i < n ∧ r = (i : Int)) := by
  rcases h with ⟨k, a1, a2, a3, a4⟩ | ⟨a1, a2⟩
  · rcases h' with ⟨k', b1, b2, b3, b4⟩ | ⟨b1, b2⟩
    · have e : k = k' := by
        rcases Nat.lt_trichotomy k k' with z | z | z
        · exact absurd ((he k a1).mp a2) (b3 k z)
        · exact z
        · exact absurd ((he k' b1).mpr b2) (a3 k' z)
      subst e
      exact ⟨by rw [a4, b4], Or.inr ⟨k, a1, a4⟩⟩
    · exact absurd ((he k a1).mp a2) (b1 k a1)
  · rcases h' with ⟨k', b1, b2, b3, b4⟩ | ⟨b1, b2⟩
    · exact absurd ((he k' b1).mpr b2) (a1 k' b1)
    · exact ⟨by rw [a2, b2], Or.inl a2⟩
section Look
variable {sv : Nat → Int32} {L : Nat} {o : cg × Option cv}
theorem plc_l {c : cg} {k : Nat} {w : Int} (hn : c 45 0 = (k : Int)) (h5 : k ≤ 5) : ∀ (n : Nat) {lf : dlf} {i : Nat}, lf 0 = (4, 45) → lf 1 = (2, w) → lf 3 = (0, (i : Int)) → i ≤ k → (∀ j, j < i → c 47 j ≠ w) → zr sv L n 48 2 lf [] c o → ∃ r, FI (c 47) k w r ∧ o = (c, some (0, r))
  | 0, _, _, _, _, _, _, _, h => (zr_0 h).elim
  | n + 1, lf, i, h0, h1, h3, hi, hj, h => by
    rcases t_plcNamed2 h h0 h1 h3 with ⟨hc, h⟩ | ⟨hc, h⟩
    · exact ⟨-1, Or.inr ⟨fun j hjk => hj j (by omega), rfl⟩, h⟩
    · rw [hn] at hc
      have h := h (by omega) (by omega)
      rw [show ((i : Int)).toNat = i from rfl, w32_id (z := (i : Int) + 1) (by omega) (by omega)] at h
      rcases h with ⟨hx, lf', a0, a1, a3, h⟩ | ⟨hx, h⟩
      · refine plc_l hn h5 n (i := i + 1) a0 a1 (by rw [a3]; rfl) (by omega) (fun j hj' => ?_) h
        by_cases e : j = i
        · intro z
          exact hx (csgn_z.mpr (by rw [← e, z]; omega))
        · exact hj j (by omega)
      · have hx := csgn_z.mp hx
        exact ⟨(i : Int), Or.inl ⟨i, by omega, by omega, hj, rfl⟩, h⟩
theorem per_l {c : cg} {k : Nat} {w : Int} (hn : c 45 3 = (k : Int)) (h5 : k ≤ 6) : ∀ (n : Nat) {lf : dlf} {i : Nat}, lf 0 = (4, 45) → lf 1 = (2, w) → lf 3 = (0, (i : Int)) → i ≤ k → (∀ j : Nat, j < i → c (59 + 2 * j) 0 ≠ w) → zr sv L n 45 2 lf [] c o → ∃ r, FI (fun i => c (59 + 2 * i) 0) k w r ∧ o = (c, some (0, r))
  | 0, _, _, _, _, _, _, _, h => (zr_0 h).elim
  | n + 1, lf, i, h0, h1, h3, hi, hj, h => by
    rcases t_perNamed2 h h0 h1 h3 with ⟨hc, h⟩ | ⟨hc, h⟩
    · exact ⟨-1, Or.inr ⟨fun j hjk => hj j (by omega), rfl⟩, h⟩
    · rw [hn] at hc
      have h := h (by omega) (by omega)
      rw [show ((59 : Int) + 2 * (i : Int)).toNat = 59 + 2 * i by omega, w32_id (z := (i : Int) + 1) (by omega) (by omega)] at h
      rcases h with ⟨hx, lf', a0, a1, a3, h⟩ | ⟨hx, h⟩
      · refine per_l hn h5 n (i := i + 1) a0 a1 (by rw [a3]; rfl) (by omega) (fun j hj' => ?_) h
        by_cases e : j = i
        · intro z
          exact hx (csgn_z.mpr (by rw [← e, z]; omega))
        · exact hj j (by omega)
      · have hx := csgn_z.mp hx
        exact ⟨(i : Int), Or.inl ⟨i, by omega, by show c (59 + 2 * i) 0 = w; omega, hj, rfl⟩, h⟩
theorem plc_ok {n : Nat} {lf : dlf} {c c1 : cg} {k : Nat} {w r : Int} (h : zr sv L n 48 0 lf [] c (c1, some (0, r))) (h0 : lf 0 = (4, 45)) (h1 : lf 1 = (2, w)) (hn : c 45 0 = (k : Int)) (h5 : k ≤ 5) : c1 = c ∧ FI (c 47) k w r := by
  obtain ⟨lf', a0, a1, a3, h⟩ := t_plcNamed0 h h0 h1
  obtain ⟨r', e1, e2⟩ := plc_l hn h5 n (i := 0) a0 a1 a3 (Nat.zero_le _) (fun j hj => absurd hj (Nat.not_lt_zero j)) h
  obtain ⟨e3, e4⟩ := oI e2
  exact ⟨e3, by rw [e4]; exact e1⟩
theorem per_ok {n : Nat} {lf : dlf} {c c1 : cg} {k : Nat} {w r : Int} (h : zr sv L n 45 0 lf [] c (c1, some (0, r))) (h0 : lf 0 = (4, 45)) (h1 : lf 1 = (2, w)) (hn : c 45 3 = (k : Int)) (h5 : k ≤ 6) : c1 = c ∧ FI (fun i => c (59 + 2 * i) 0) k w r := by
  obtain ⟨lf', a0, a1, a3, h⟩ := t_perNamed0 h h0 h1
  obtain ⟨r', e1, e2⟩ := per_l hn h5 n (i := 0) a0 a1 a3 (Nat.zero_le _) (fun j hj => absurd hj (Nat.not_lt_zero j)) h
  obtain ⟨e3, e4⟩ := oI e2
  exact ⟨e3, by rw [e4]; exact e1⟩
/-- what nameHere() gives, whenever it is asked -/
def NH (sv : Nat → Int32) (L : Nat) (d : cg) (V : Int) : Prop := ∀ (n : Nat) (lf : dlf) (d1 : cg) (r : Int), zr sv L n 183 0 lf [] d (d1, some (2, r)) → lf 0 = (4, 253) → d1 = d ∧ r = V
theorem fnd_l {d : cg} {V : Int} (hV : NH sv L d V) {b k : Nat} (hb : b + k ≤ 72) : ∀ (n : Nat) {lf : dlf} {i : Nat}, lf 0 = (4, 253) → lf 1 = (0, (b : Int)) → lf 2 = (0, (k : Int)) → lf 3 = (0, (i : Int)) → i ≤ k → (∀ j, j < i → d 255 (b + j) ≠ V) → zr sv L n 182 2 lf [] d o → ∃ r, FI (fun i => d 255 (b + i)) k V r ∧ o = (d, some (0, r))
  | 0, _, _, _, _, _, _, _, _, h => (zr_0 h).elim
  | n + 1, lf, i, h0, h1, h2, h3, hi, hj, h => by
    rcases m_find2 h h0 h1 h2 h3 with ⟨hc, h⟩ | ⟨hc, h⟩
    · exact ⟨-1, Or.inr ⟨fun j hjk => hj j (by omega), rfl⟩, h⟩
    · have e1 : w32 ((b : Int) + (i : Int)) = ((b + i : Nat) : Int) := by rw [w32_id (by omega) (by omega)]; omega
      rw [e1] at h
      obtain ⟨g4, r5, k1, h⟩ := h (by omega) (by omega)
      obtain ⟨e2, e3⟩ := hV n _ _ _ k1 rfl
      rw [e2, e3, show (((b + i : Nat) : Int)).toNat = b + i from rfl, w32_id (z := (i : Int) + 1) (by omega) (by omega)] at h
      rcases h with ⟨hx, lf', a0, a1, a2, a3, h⟩ | ⟨hx, h⟩
      · refine fnd_l hV hb n (i := i + 1) a0 a1 a2 (by rw [a3]; rfl) (by omega) (fun j hj' => ?_) h
        by_cases e : j = i
        · intro z
          exact hx (csgn_z.mpr (by rw [← e, z]; omega))
        · exact hj j (by omega)
      · have hx := csgn_z.mp hx
        exact ⟨(i : Int), Or.inl ⟨i, by omega, by show d 255 (b + i) = V; omega, hj, rfl⟩, h⟩
theorem fnd_ok {n : Nat} {lf : dlf} {d d1 : cg} {V r : Int} {b k : Nat} (h : zr sv L n 182 0 lf [] d (d1, some (0, r))) (h0 : lf 0 = (4, 253)) (h1 : lf 1 = (0, (b : Int))) (h2 : lf 2 = (0, (k : Int))) (hV : NH sv L d V) (hb : b + k ≤ 72) : d1 = d ∧ FI (fun i => d 255 (b + i)) k V r := by
  obtain ⟨lf', a0, a1, a2, a3, h⟩ := m_find0 h h0 h1 h2
  obtain ⟨r', e1, e2⟩ := fnd_l hV hb n (i := 0) a0 a1 a2 a3 (Nat.zero_le _) (fun j hj => absurd hj (Nat.not_lt_zero j)) h
  obtain ⟨e3, e4⟩ := oI e2
  exact ⟨e3, by rw [e4]; exact e1⟩
/-- a name here: its two numbers -/
theorem tq_nh {c d : cg} {m : Nat} (hE : TE c d m) (hT : TQ c d m) (hk : c 88 4 = 2) : ∃ V, NH sv L d V ∧ NR (c 88 6) V := by
  have hT0 := hT
  obtain ⟨p, hp, hp', hpm, hT⟩ := hT
  rcases hT with ⟨a1, a2, a3⟩ | ⟨q, a1, a2, a3, a4, a5, a6, a7⟩ | ⟨q, a1, a2, a3, a4, a5, a6, a7⟩ | ⟨q, a1, a2, a3, a4, a5, a6, a7⟩ | ⟨a1, a2, a3⟩
  · omega
  · rcases a7 with ⟨y1, y2, y3⟩ | ⟨y1, y2, y3⟩
    · omega
    · refine ⟨P8 (mb d) p (q - p), fun n lf d1 r h h0 => ?_, mb d, p, q - p, y1, fun j z1 z2 => a6 j z1 (by omega), y2, rfl⟩
      exact nam_ok (p := p) (q := q) (m := m) h h0 hp' a4 (by omega) a2 hE.2.2.1 hE.1 hE.2.2.2.2.1 y1 a6
  all_goals omega
variable {n n' : Nat} {lf lf' : dlf} {c d c' d' : cg} {m : Nat} {r r' : Int}
/-- passPlace(draft) and oldOne of a place -/
theorem oplc_pr {k to : Nat} (hk : k ≤ 5) (hn : c 45 0 = (k : Int)) (hN : NP c d k) (hto : to < 5208) (hE : TE c d m) (hT : TQ c d m) (hf : d 253 18 = 0) (h : zr sv L n 47 0 lf [] c (c', some (0, r))) (h0 : lf 0 = (4, 88)) (h1 : lf 1 = (4, 45)) (h' : zr sv L n' 180 0 lf' [] d (d', some (0, r'))) (h0' : lf' 0 = (4, 253)) (h1' : lf' 1 = (0, 48)) (h2' : lf' 2 = (0, (k : Int))) (h3' : lf' 3 = (0, (to : Int))) : (r' = 1 ∧ (∃ i : Nat, i < k ∧ r = (i : Int)) ∧ SU c (cup d 254 to r) c' d' m) ∨ (r = -1 ∧ r' = 0 ∧ FLT c' d') := by
  obtain ⟨g1, r2, k1, h'⟩ := m_old h' h0' h1' h2' h3'
  obtain ⟨e1, e2⟩ := tq_name hE hT k1 rfl rfl
  rw [e1] at h'
  rw [show ((to : Int)).toNat = to from rfl] at h'
  rcases t_passPlc h h0 h1 with ⟨x1, lf2, b0, b2, h⟩ | ⟨x1, g3, r4, k2, lf2, b0, b2, h⟩
  · have hr2 : r2 = 0 := by
      rcases e2 with ⟨z1, z2⟩ | ⟨z1, z2⟩
      · exact absurd z1 x1
      · exact z2
    rcases h' with ⟨y1, y2⟩ | ⟨y1, g12, r13, k3, y2⟩
    · exact absurd hr2 y1
    · obtain ⟨e5, e6⟩ := oI y2
      rcases t_passPlc21 h b0 b2 with ⟨w1, w2⟩ | ⟨w1, ⟨w2, g4, r5, k4, w3⟩ | ⟨w2, w3⟩⟩
      · exact absurd rfl w1
      · obtain ⟨e3, e4⟩ := oI w3
        obtain ⟨z1, z2, z3⟩ := fail_pr hT hf (by decide) k4 rfl rfl k3 rfl rfl
        refine Or.inr ⟨e4, by rw [e6, z2], ?_⟩
        rw [e3, e5]
        exact z3
      · exact absurd w2 x1
  · have hr2 : r2 = 1 := by
      rcases e2 with ⟨z1, z2⟩ | ⟨z1, z2⟩
      · exact z2
      · exact absurd x1 z1
    obtain ⟨V, hV, hNR⟩ := tq_nh (sv := sv) (L := L) hE hT x1
    obtain ⟨e3, e4⟩ := plc_ok k2 rfl rfl hn hk
    rw [e3] at h
    rcases h' with ⟨y1, g4, r5, k3, y2⟩ | ⟨y1, y2⟩
    · obtain ⟨e5, e6⟩ := fnd_ok (b := 48) (k := k) k3 rfl rfl rfl hV (by omega)
      rw [e5] at y2
      obtain ⟨e7, e8⟩ := FI_eq e4 e6 (fun i hi => NR_eq (hN i hi) hNR)
      have y2 := y2 (by omega) (by omega)
      have dr : ∀ v, cup d 254 to v 253 = d 253 := fun v => cup_row d _ _ (by decide)
      have ds : ∀ v, cup d 254 to v 260 = d 260 := fun v => cup_row d _ _ (by decide)
      rcases y2 with ⟨u1, g9, k4, u2⟩ | ⟨u1, g10, r11, k4, u2⟩
      · obtain ⟨e9, e10⟩ := oI u2
        rcases t_passPlc21 h b0 b2 with ⟨w1, g2, k5, w2⟩ | ⟨w1, w2⟩
        · obtain ⟨e11, e12⟩ := oI w2
          refine Or.inl ⟨e10, ?_, ?_⟩
          · rcases e8 with z | ⟨i, z1, z2⟩
            · exact absurd z w1
            · exact ⟨i, z1, by rw [e12, z2]⟩
          · rw [e11, e9, e12, e7]
            exact adv_su (c0 := c) (hE.up rfl rfl rfl (dr _) (ds _)) (hT.up rfl (dr _) (ds _)) (Or.inr (Or.inl x1)) k5 rfl k4 rfl
        · exact absurd (by rw [← e7]; exact w1) u1
      · obtain ⟨e9, e10⟩ := oI u2
        rcases t_passPlc21 h b0 b2 with ⟨w1, w2⟩ | ⟨w1, ⟨w2, w3⟩ | ⟨w2, g6, r7, k5, w3⟩⟩
        · exact absurd (by rw [e7]; exact u1) w1
        · exact absurd x1 w2
        · obtain ⟨e11, e12⟩ := oI w3
          obtain ⟨z1, z2, z3⟩ := fail_pr (hT.up rfl (dr r5) (ds r5)) (by rw [dr]; exact hf) (by decide) k5 rfl rfl k4 rfl rfl
          refine Or.inr ⟨by rw [e12]; exact w1, by rw [e10, z2], ?_⟩
          rw [e11, e9]
          exact z3
    · rw [hr2] at y1
      exact absurd y1 (by decide)
/-- passPerson(draft) and oldOne of a person -/
theorem oper_pr {k to : Nat} (hk : k ≤ 6) (hn : c 45 3 = (k : Int)) (hN : NQ c d k) (hto : to < 5208) (hE : TE c d m) (hT : TQ c d m) (hf : d 253 18 = 0) (h : zr sv L n 44 0 lf [] c (c', some (0, r))) (h0 : lf 0 = (4, 88)) (h1 : lf 1 = (4, 45)) (h' : zr sv L n' 180 0 lf' [] d (d', some (0, r'))) (h0' : lf' 0 = (4, 253)) (h1' : lf' 1 = (0, 53)) (h2' : lf' 2 = (0, (k : Int))) (h3' : lf' 3 = (0, (to : Int))) : (r' = 1 ∧ (∃ i : Nat, i < k ∧ r = (i : Int)) ∧ SU c (cup d 254 to r) c' d' m) ∨ (r = -1 ∧ r' = 0 ∧ FLT c' d') := by
  obtain ⟨g1, r2, k1, h'⟩ := m_old h' h0' h1' h2' h3'
  obtain ⟨e1, e2⟩ := tq_name hE hT k1 rfl rfl
  rw [e1] at h'
  rw [show ((to : Int)).toNat = to from rfl] at h'
  rcases t_passPer h h0 h1 with ⟨x1, lf2, b0, b2, h⟩ | ⟨x1, g3, r4, k2, lf2, b0, b2, h⟩
  · have hr2 : r2 = 0 := by
      rcases e2 with ⟨z1, z2⟩ | ⟨z1, z2⟩
      · exact absurd z1 x1
      · exact z2
    rcases h' with ⟨y1, y2⟩ | ⟨y1, g12, r13, k3, y2⟩
    · exact absurd hr2 y1
    · obtain ⟨e5, e6⟩ := oI y2
      rcases t_passPer21 h b0 b2 with ⟨w1, w2⟩ | ⟨w1, ⟨w2, g4, r5, k4, w3⟩ | ⟨w2, w3⟩⟩
      · exact absurd rfl w1
      · obtain ⟨e3, e4⟩ := oI w3
        obtain ⟨z1, z2, z3⟩ := fail_pr hT hf (by decide) k4 rfl rfl k3 rfl rfl
        refine Or.inr ⟨e4, by rw [e6, z2], ?_⟩
        rw [e3, e5]
        exact z3
      · exact absurd w2 x1
  · have hr2 : r2 = 1 := by
      rcases e2 with ⟨z1, z2⟩ | ⟨z1, z2⟩
      · exact z2
      · exact absurd x1 z1
    obtain ⟨V, hV, hNR⟩ := tq_nh (sv := sv) (L := L) hE hT x1
    obtain ⟨e3, e4⟩ := per_ok k2 rfl rfl hn hk
    rw [e3] at h
    rcases h' with ⟨y1, g4, r5, k3, y2⟩ | ⟨y1, y2⟩
    · obtain ⟨e5, e6⟩ := fnd_ok (b := 53) (k := k) k3 rfl rfl rfl hV (by omega)
      rw [e5] at y2
      obtain ⟨e7, e8⟩ := FI_eq e4 e6 (fun i hi => NR_eq (hN i hi) hNR)
      have y2 := y2 (by omega) (by omega)
      have dr : ∀ v, cup d 254 to v 253 = d 253 := fun v => cup_row d _ _ (by decide)
      have ds : ∀ v, cup d 254 to v 260 = d 260 := fun v => cup_row d _ _ (by decide)
      rcases y2 with ⟨u1, g9, k4, u2⟩ | ⟨u1, g10, r11, k4, u2⟩
      · obtain ⟨e9, e10⟩ := oI u2
        rcases t_passPer21 h b0 b2 with ⟨w1, g2, k5, w2⟩ | ⟨w1, w2⟩
        · obtain ⟨e11, e12⟩ := oI w2
          refine Or.inl ⟨e10, ?_, ?_⟩
          · rcases e8 with z | ⟨i, z1, z2⟩
            · exact absurd z w1
            · exact ⟨i, z1, by rw [e12, z2]⟩
          · rw [e11, e9, e12, e7]
            exact adv_su (c0 := c) (hE.up rfl rfl rfl (dr _) (ds _)) (hT.up rfl (dr _) (ds _)) (Or.inr (Or.inl x1)) k5 rfl k4 rfl
        · exact absurd (by rw [← e7]; exact w1) u1
      · obtain ⟨e9, e10⟩ := oI u2
        rcases t_passPer21 h b0 b2 with ⟨w1, w2⟩ | ⟨w1, ⟨w2, w3⟩ | ⟨w2, g6, r7, k5, w3⟩⟩
        · exact absurd (by rw [e7]; exact u1) w1
        · exact absurd x1 w2
        · obtain ⟨e11, e12⟩ := oI w3
          obtain ⟨z1, z2, z3⟩ := fail_pr (hT.up rfl (dr r5) (ds r5)) (by rw [dr]; exact hf) (by decide) k5 rfl rfl k4 rfl rfl
          refine Or.inr ⟨by rw [e12]; exact w1, by rw [e10, z2], ?_⟩
          rw [e11, e9]
          exact z3
    · rw [hr2] at y1
      exact absurd y1 (by decide)
end Look
end
section
/-! the drafts of both programs -/
def O8 (c' c : cg) : Prop := ∀ k : Nat, k ≠ 88 → c' k = c k
def OM (d' d : cg) : Prop := (∀ k : Nat, k ≠ 253 → d' k = d k) ∧ d' 253 20 = d 253 20 ∧ d' 253 18 = d 253 18
theorem FT.o8 {c' c : cg} (h : FT c' c) : O8 c' c := fun _ hk => h.row hk
theorem FTM.o8 {c' c : cg} (h : FTM c' c) : O8 c' c := h.1.o8
theorem FM.om {d' d : cg} (h : FM d' d) : OM d' d := ⟨fun _ hk => h.row hk, h 253 20 (by omega), h 253 18 (by omega)⟩
theorem O8.rf (c : cg) : O8 c c := fun _ _ => rfl
theorem O8.tr {a b e : cg} (h : O8 a b) (h' : O8 b e) : O8 a e := fun k hk => (h k hk).trans (h' k hk)
theorem OM.tr {a b e : cg} (h : OM a b) (h' : OM b e) : OM a e := ⟨fun k hk => (h.1 k hk).trans (h'.1 k hk), h.2.1.trans h'.2.1, h.2.2.trans h'.2.2⟩
theorem O8.cup {a b : cg} (h : O8 a b) (k j : Nat) (z : Int) : O8 (cup a k j z) (cup b k j z) := by
  intro k' hk
  funext j'
  show (if k' = k ∧ j' = j then z else a k' j') = (if k' = k ∧ j' = j then z else b k' j')
  rw [h k' hk]
theorem OM.cup {a b : cg} (h : OM a b) {k : Nat} (hk : k ≠ 253) (j : Nat) (z : Int) : OM (cup a k j z) (cup b k j z) := by
  refine ⟨fun k' hk' => ?_, ?_, ?_⟩
  · funext j'
    show (if k' = k ∧ j' = j then z else a k' j') = (if k' = k ∧ j' = j then z else b k' j')
    rw [h.1 k' hk']
  · rw [cup_ne (fun e => hk e.1.symm), cup_ne (fun e => hk e.1.symm)]
    exact h.2.1
  · rw [cup_ne (fun e => hk e.1.symm), cup_ne (fun e => hk e.1.symm)]
    exact h.2.2
def PRr (c d : cg) (i : Nat) : Prop := c (59 + 2 * i) 1 = d 254 (2991 + 6 * i) ∧ c (59 + 2 * i) 2 = d 254 (2991 + 6 * i + 1) ∧ c (59 + 2 * i) 3 = d 254 (2991 + 6 * i + 2) ∧ c (59 + 2 * i) 4 = d 254 (2991 + 6 * i + 3) ∧ c (59 + 2 * i) 5 = d 254 (2991 + 6 * i + 4) ∧ ∀ h : Nat, h < 8 → c (60 + 2 * i) h = d 254 (3027 + 8 * i + h)
/-- which rates have been told -/
def TR (t t' : Int) : Prop := ∃ x y z : Nat, x < 2 ∧ y < 2 ∧ z < 2 ∧ t = ((2048 * x + 4096 * y + 8192 * z : Nat) : Int) ∧ t' = ((32 * x + 64 * y + 128 * z : Nat) : Int)
/-- a person's numbers are as they can be -/
def GPd (c : cg) (np i : Nat) : Prop := (0 ≤ c (59 + 2 * i) 1 ∧ c (59 + 2 * i) 1 ≤ 999) ∧ c (59 + 2 * i) 4 ≠ (i : Int) ∧ ∀ h : Nat, h < 8 → c (60 + 2 * i) h < (np : Int)
theorem GPd.fr {c c' : cg} {np np' i : Nat} (h : GPd c np i) (e1 : c' (59 + 2 * i) 1 = c (59 + 2 * i) 1) (e4 : c' (59 + 2 * i) 4 = c (59 + 2 * i) 4) (eh : ∀ h : Nat, h < 8 → c' (60 + 2 * i) h = c (60 + 2 * i) h) (hn : np ≤ np') : GPd c' np' i := by
  obtain ⟨h1, h2, h3⟩ := h
  refine ⟨by rw [e1]; exact h1, by rw [e4]; exact h2, fun j hj => ?_⟩
  have := h3 j hj
  rw [eh j hj]
  omega
def DR (c d : cg) (np nq : Nat) : Prop := (np ≤ 5 ∧ nq ≤ 6) ∧ (c 45 0 = (np : Int) ∧ d 254 2976 = (np : Int) ∧ c 45 3 = (nq : Int) ∧ d 254 2977 = (nq : Int)) ∧ NP c d np ∧ NQ c d nq ∧ (∀ i : Nat, i < np → c 46 i = d 254 (2986 + i)) ∧ (∀ i : Nat, i < nq → PRr c d i) ∧ (∀ i : Nat, nq ≤ i → i < 6 → d 254 (2991 + 6 * i + 4) = 0 ∧ ∀ h : Nat, h < 8 → d 254 (3027 + 8 * i + h) = -1) ∧ (c 45 5 = d 254 2979 ∧ c 45 6 = d 254 2980 ∧ c 45 7 = d 254 2981 ∧ c 45 8 = 0 ∧ d 254 2982 = 0 ∧ c 45 9 = 0 ∧ d 254 2978 = 0) ∧ TR (c 90 4) (d 253 20) ∧ (∀ i : Nat, i < nq → GPd c np i) ∧ c 50 0 = 0 ∧ d 254 2983 = -1
theorem DR.fr {c d c' d' : cg} {np nq : Nat} (h : DR c d np nq) (hc : O8 c' c) (hd : OM d' d) : DR c' d' np nq := by
  obtain ⟨⟨a1, a2⟩, a3, a4, a5, a6, a7, a8, a9, a10⟩ := h
  have d4 : d' 254 = d 254 := hd.1 254 (by decide)
  have d5 : d' 255 = d 255 := hd.1 255 (by decide)
  refine ⟨⟨a1, a2⟩, ?_, ?_, ?_, ?_, ?_, ?_, ?_, ?_⟩
  · rw [hc 45 (by decide), d4]; exact a3
  · intro i hi
    rw [hc 47 (by decide), d5]; exact a4 i hi
  · intro i hi
    rw [hc (59 + 2 * i) (by omega), d5]; exact a5 i hi
  · rw [hc 46 (by decide), d4]; exact a6
  · intro i hi
    unfold PRr
    rw [hc (59 + 2 * i) (by omega), hc (60 + 2 * i) (by omega), d4]; exact a7 i hi
  · rw [d4]; exact a8
  · rw [hc 45 (by decide), d4]; exact a9
  · exact ⟨by rw [hc 90 (by decide), hd.2.1]; exact a10.1, fun i hi => (a10.2.1 i hi).fr (by rw [hc _ (by omega)]) (by rw [hc _ (by omega)]) (fun h _ => by rw [hc _ (by omega)]) (Nat.le_refl np), by rw [hc 50 (by decide)]; exact a10.2.2.1, by rw [d4]; exact a10.2.2.2⟩
theorem DR.place {c d : cg} {np nq : Nat} {w V r : Int} (h : DR c d np nq) (hn : np < 5) (hw : NR w V) : DR (cup (cup (cup c 47 np w) 46 np r) 45 0 ((np + 1 : Nat) : Int)) (cup (cup (cup d 255 (48 + np) V) 254 (2986 + np) r) 254 2976 ((np + 1 : Nat) : Int)) (np + 1) nq := by
  obtain ⟨⟨a1, a2⟩, ⟨b1, b2, b3, b4⟩, a4, a5, a6, a7, a8, ⟨e1, e2, e3, e4, e5, e6, e7⟩, a10⟩ := h
  have C : ∀ k j : Nat, ¬ (k = 45 ∧ j = 0) → ¬ (k = 46 ∧ j = np) → ¬ (k = 47 ∧ j = np) → cup (cup (cup c 47 np w) 46 np r) 45 0 ((np + 1 : Nat) : Int) k j = c k j := fun k j x y z => by rw [cup_ne x, cup_ne y, cup_ne z]
  have D : ∀ k j : Nat, ¬ (k = 254 ∧ j = 2976) → ¬ (k = 254 ∧ j = 2986 + np) → ¬ (k = 255 ∧ j = 48 + np) → cup (cup (cup d 255 (48 + np) V) 254 (2986 + np) r) 254 2976 ((np + 1 : Nat) : Int) k j = d k j := fun k j x y z => by rw [cup_ne x, cup_ne y, cup_ne z]
  refine ⟨⟨by omega, a2⟩, ⟨?_, ?_, ?_, ?_⟩, ?_, ?_, ?_, ?_, ?_, ⟨?_, ?_, ?_, ?_, ?_, ?_, ?_⟩, ?_⟩
  · rw [cup_at]
  · rw [cup_at]
  · rw [C _ _ (by omega) (by omega) (by omega)]; exact b3
  · rw [D _ _ (by omega) (by omega) (by omega)]; exact b4
  · intro i hi
    by_cases e : i = np
    · rw [e, cup_ne (by omega), cup_ne (by omega), cup_at, cup_ne (by omega), cup_ne (by omega), cup_at]
      exact hw
    · rw [C _ _ (by omega) (by omega) (by omega), D _ _ (by omega) (by omega) (by omega)]
      exact a4 i (by omega)
  · intro i hi
    rw [C _ _ (by omega) (by omega) (by omega), D _ _ (by omega) (by omega) (by omega)]
    exact a5 i hi
  · intro i hi
    by_cases e : i = np
    · rw [e, cup_ne (by omega), cup_at, cup_ne (by omega), cup_at]
    · rw [C _ _ (by omega) (by omega) (by omega), D _ _ (by omega) (by omega) (by omega)]
      exact a6 i (by omega)
  · intro i hi
    obtain ⟨p1, p2, p3, p4, p5, p6⟩ := a7 i hi
    refine ⟨?_, ?_, ?_, ?_, ?_, fun h hh => ?_⟩
    all_goals rw [C _ _ (by omega) (by omega) (by omega), D _ _ (by omega) (by omega) (by omega)]
    · exact p1
    · exact p2
    · exact p3
    · exact p4
    · exact p5
    · exact p6 h hh
  · intro i hi hi6
    refine ⟨?_, fun h hh => ?_⟩
    · rw [D _ _ (by omega) (by omega) (by omega)]; exact (a8 i hi hi6).1
    · rw [D _ _ (by omega) (by omega) (by omega)]; exact (a8 i hi hi6).2 h hh
  · rw [C _ _ (by omega) (by omega) (by omega), D _ _ (by omega) (by omega) (by omega)]; exact e1
  · rw [C _ _ (by omega) (by omega) (by omega), D _ _ (by omega) (by omega) (by omega)]; exact e2
  · rw [C _ _ (by omega) (by omega) (by omega), D _ _ (by omega) (by omega) (by omega)]; exact e3
  · rw [C _ _ (by omega) (by omega) (by omega)]; exact e4
  · rw [D _ _ (by omega) (by omega) (by omega)]; exact e5
  · rw [C _ _ (by omega) (by omega) (by omega)]; exact e6
  · rw [D _ _ (by omega) (by omega) (by omega)]; exact e7
  · exact ⟨by rw [C _ _ (by omega) (by omega) (by omega), D _ _ (by omega) (by omega) (by omega)]; exact a10.1, fun i hi => (a10.2.1 i hi).fr (C _ _ (by omega) (by omega) (by omega)) (C _ _ (by omega) (by omega) (by omega)) (fun h _ => C _ _ (by omega) (by omega) (by omega)) (Nat.le_succ np), by rw [C _ _ (by omega) (by omega) (by omega)]; exact a10.2.2.1, by rw [D _ _ (by omega) (by omega) (by omega)]; exact a10.2.2.2⟩
/-- all that both sides have in common between two statements -/
def SY (c d : cg) (m np nq : Nat) : Prop := TE c d m ∧ TQ c d m ∧ DR c d np nq ∧ d 253 18 = 0
def ST (c0 c d : cg) (r r' : Int) (m : Nat) : Prop := (r = 1 ∧ r' = 1 ∧ (∃ np nq, SY c d m np nq) ∧ c0 88 5 < c 88 5) ∨ (r = 0 ∧ r' = 0 ∧ FLT c d)
section Stm
variable {sv : Nat → Int32} {L : Nat} {n n' : Nat} {lf lf' : dlf} {c d c' d' : cg} {m : Nat} {r r' : Int}
/-- a new name: what isNewName() says, and the reference's newOne() at that place -/
theorem new_pr {np nq : Nat} {x : cg × Option cv} {K : cg → Prop} (hE : TE c d m) (hT : TQ c d m) (hD : DR c d np nq) (hf : d 253 18 = 0) (h : zr sv L n 55 0 lf [] c (c', some (0, r))) (h0 : lf 0 = (4, 90))
    (h' : ∃ g3 r4, zr sv L n' 181 0 (darg 0 [(4, 253), (6, 3)]) [] d (g3, some (0, r4)) ∧ ((r4 ≠ 0 ∧ (∃ g6 r7, zr sv L n' 182 0 (darg 0 [(4, 253), (0, 48), (0, g3 254 2976)]) [] g3 (g6, some (0, r7)) ∧ ((r7 ≠ (-1) ∧ (∃ g9 r10, zr sv L n' 173 0 (darg 0 [(4, 253), (0, 3)]) [] g6 (g9, some (0, r10)) ∧ (x = (g9, some (0, r10))))) ∨ (r7 = (-1) ∧ (∃ g11 r12, zr sv L n' 182 0 (darg 0 [(4, 253), (0, 53), (0, g6 254 2977)]) [] g6 (g11, some (0, r12)) ∧ ((r12 = (-1) ∧ K g11) ∨ (r12 ≠ (-1) ∧ (∃ g17 r18, zr sv L n' 173 0 (darg 0 [(4, 253), (0, 3)]) [] g11 (g17, some (0, r18)) ∧ (x = (g17, some (0, r18))))))))))) ∨ (r4 = 0 ∧ (∃ g19 r20, zr sv L n' 173 0 (darg 0 [(4, 253), (0, 2)]) [] g3 (g19, some (0, r20)) ∧ (x = (g19, some (0, r20))))))) :
    (r = 1 ∧ c' = c ∧ c 88 4 = 2 ∧ K d ∧ ∃ V, NH sv L d V ∧ NR (c 88 6) V) ∨ (r = 0 ∧ ∃ g9 r10, x = (g9, some (0, r10)) ∧ r10 = 0 ∧ FLT c' g9) := by
  obtain ⟨⟨a1, a2⟩, ⟨b1, b2, b3, b4⟩, a4, a5, -⟩ := hD
  obtain ⟨g3, r4, k1, h'⟩ := h'
  obtain ⟨e1, e2⟩ := tq_name hE hT k1 rfl rfl
  rw [e1] at h'
  rcases t_isNew h h0 with ⟨x1, g2, r3, k2, h⟩ | ⟨x1, g12, r13, k2, h⟩
  · have hr4 : r4 = 1 := by
      rcases e2 with ⟨z1, z2⟩ | ⟨z1, z2⟩
      · exact z2
      · exact absurd x1 z1
    obtain ⟨V, hV, hNR⟩ := tq_nh (sv := sv) (L := L) hE hT x1
    obtain ⟨e3, e4⟩ := plc_ok k2 rfl rfl b1 a1
    rw [e3] at h
    rcases h' with ⟨y1, g6, r7, k3, h'⟩ | ⟨y1, y2⟩
    · rw [b2] at k3
      obtain ⟨e5, e6⟩ := fnd_ok (b := 48) (k := np) k3 rfl rfl rfl hV (by omega)
      rw [e5] at h'
      obtain ⟨e7, e8⟩ := FI_eq e4 e6 (fun i hi => NR_eq (a4 i hi) hNR)
      rcases h with ⟨u1, g5, r6, k4, h⟩ | ⟨u1, g7, r8, k4, h⟩
      · obtain ⟨e9, e10⟩ := oI h
        rcases h' with ⟨v1, g9, r10, k5, v2⟩ | ⟨v1, v2⟩
        · obtain ⟨z1, z2, z3⟩ := fail_pr hT hf (by decide) k4 rfl rfl k5 rfl rfl
          exact Or.inr ⟨by rw [e10, z1], g9, r10, v2, z2, by rw [e9]; exact z3⟩
        · exact absurd (by rw [e7]; exact v1) u1
      · rcases h' with ⟨v1, v2⟩ | ⟨v1, g11, r12, k5, h'⟩
        · exact absurd (by rw [← e7]; exact u1) v1
        · obtain ⟨e9, e10⟩ := per_ok k4 rfl rfl b3 a2
          rw [e9] at h
          rw [b4] at k5
          obtain ⟨e11, e12⟩ := fnd_ok (b := 53) (k := nq) k5 rfl rfl rfl hV (by omega)
          rw [e11] at h'
          obtain ⟨e13, e14⟩ := FI_eq e10 e12 (fun i hi => NR_eq (a5 i hi) hNR)
          rcases h with ⟨w1, w2⟩ | ⟨w1, g10, r11, k6, w2⟩
          · obtain ⟨f1, f2⟩ := oI w2
            rcases h' with ⟨t1, t2⟩ | ⟨t1, t2⟩
            · exact Or.inl ⟨f2, f1, x1, t2, V, hV, hNR⟩
            · exact absurd (by rw [← e13]; exact w1) t1
          · obtain ⟨f1, f2⟩ := oI w2
            rcases h' with ⟨t1, t2⟩ | ⟨t1, g17, r18, k7, t2⟩
            · exact absurd (by rw [e13]; exact t1) w1
            · obtain ⟨z1, z2, z3⟩ := fail_pr hT hf (by decide) k6 rfl rfl k7 rfl rfl
              exact Or.inr ⟨by rw [f2, z1], g17, r18, t2, z2, by rw [f1]; exact z3⟩
    · rw [hr4] at y1
      exact absurd y1 (by decide)
  · have hr4 : r4 = 0 := by
      rcases e2 with ⟨z1, z2⟩ | ⟨z1, z2⟩
      · exact absurd z1 x1
      · exact z2
    obtain ⟨e9, e10⟩ := oI h
    rcases h' with ⟨y1, y2⟩ | ⟨y1, g19, r20, k3, y2⟩
    · exact absurd hr4 y1
    · obtain ⟨z1, z2, z3⟩ := fail_pr hT hf (by decide) k2 rfl rfl k3 rfl rfl
      exact Or.inr ⟨by rw [e10, z1], g19, r20, y2, z2, by rw [e9]; exact z3⟩
/-- the end of a statement: r1 of the reference's part, and the sign behind it -/
theorem end_pr {np nq : Nat} {r1 : Int} (hE : TE c d m) (hT : TQ c d m) (hf : d 253 18 = 0) (h : zr sv L n 42 0 lf [] c (c', some (0, r))) (h0 : lf 0 = (4, 88)) (h' : zr sv L n' 171 129 lf' [] d (d', some (0, r'))) (h0' : lf' 0 = (4, 253)) (h1' : lf' 1 = (0, r1)) (hr1 : r1 ≠ 0) : (r = 1 ∧ r' = 1 ∧ SU c d c' d' m) ∨ (r = 0 ∧ r' = 0 ∧ FLT c' d') := by
  rcases m_part129 h' h0' h1' with ⟨x1, x2⟩ | ⟨x1, g2, r3, k1, x2⟩
  · exact absurd x1 hr1
  · rcases stop_pr hE hT hf h h0 k1 rfl rfl with ⟨y1, y2, y3⟩ | ⟨y1, y2, y3⟩
    · rcases x2 with ⟨z1, z2⟩ | ⟨z1, z2⟩
      · omega
      · obtain ⟨e1, e2⟩ := oI z2
        exact Or.inl ⟨y1, e2, by rw [e1]; exact y3⟩
    · rcases x2 with ⟨z1, z2⟩ | ⟨z1, z2⟩
      · obtain ⟨e1, e2⟩ := oI z2
        exact Or.inr ⟨y1, e2, by rw [e1]; exact y3⟩
      · omega
/-- a part that failed: its end -/
theorem end_0 {r1 : Int} (h' : zr sv L n' 171 129 lf' [] d (d', some (0, r'))) (h0' : lf' 0 = (4, 253)) (h1' : lf' 1 = (0, r1)) (hr1 : r1 = 0) : d' = d ∧ r' = 0 := by
  rcases m_part129 h' h0' h1' with ⟨x1, x2⟩ | ⟨x1, x2⟩
  · exact oI x2
  · exact absurd hr1 x1
/-- a place -/
theorem place_pr {np nq : Nat} {d1 : cg} {r1 : Int} (hS : SY c d m np nq) (hk : c 88 7 ≠ -1) (h : zr sv L n 58 0 lf [] c (c', some (0, r))) (h0 : lf 0 = (4, 90)) {lf2 : dlf} (h2 : zr sv L n' 190 0 lf2 [] d (d1, some (0, r1))) (h20 : lf2 0 = (4, 253)) (h' : zr sv L n' 171 129 lf' [] d1 (d', some (0, r'))) (h0' : lf' 0 = (4, 253)) (h1' : lf' 1 = (0, r1)) : ST c c' d' r r' m := by
  obtain ⟨hE, hT, hD, hf⟩ := hS
  have hD0 := hD
  obtain ⟨⟨a1, a2⟩, ⟨b1, b2, b3, b4⟩, -⟩ := hD0
  obtain ⟨g1, r2, k1, h2⟩ := m_aPlace h2 h20
  have bad : r1 = 0 → r = 0 → FLT c' d1 → ST c c' d' r r' m := by
    intro z1 z2 z3
    obtain ⟨e1, e2⟩ := end_0 h' h0' h1' z1
    exact Or.inr ⟨z2, e2, by rw [e1]; exact z3⟩
  rcases t_takePlc h h0 with ⟨x1, g2, k2, g3, r4, k3, h⟩ | ⟨x1, g16, r17, k2, h⟩
  · rw [b1] at x1
    rcases m_newPlc k1 rfl rfl rfl rfl with ⟨y1, d2, k4, hn⟩ | ⟨y1, y2⟩
    · obtain ⟨s1, s2, s3, s4⟩ := adv_su (c0 := c) hE hT (Or.inl (tq_kk hT hk)) k2 rfl k4 rfl
      have hD2 := hD.fr s1.o8 s2.om
      have hf2 : d2 253 18 = 0 := s2.om.2.2.trans hf
      rcases new_pr s3 s4 hD2 hf2 k3 rfl hn with ⟨z1, z2, z3, ⟨d3, V', k5, d4, k6, z4⟩, V, z5, z6⟩ | ⟨z1, d9, r10, z2, z3, z4⟩
      · obtain ⟨e1, e2⟩ := z5 _ _ _ _ k5 rfl
        rw [e1, e2, show (w32 (48 + (d2 254 2976))).toNat = 48 + np by rw [hD2.2.1.2.1, w32_id (by omega) (by omega)]; omega] at k6
        obtain ⟨e3, e4⟩ := oI z4
        rcases h with ⟨u1, c3, k7, c4, r8, k8, h⟩ | ⟨u1, u2⟩
        · rw [z2, show (g2 45 0).toNat = np by rw [hD2.2.1.1]; rfl] at k7
          have q1 : cup g2 47 np (g2 88 6) 88 = g2 88 := cup_row g2 _ _ (by decide)
          have q2 : cup g2 47 np (g2 88 6) 2 = g2 2 := cup_row g2 _ _ (by decide)
          have q3 : cup g2 47 np (g2 88 6) 89 = g2 89 := cup_row g2 _ _ (by decide)
          have q4 : cup d2 255 (48 + np) V 253 = d2 253 := cup_row d2 _ _ (by decide)
          have q5 : cup d2 255 (48 + np) V 260 = d2 260 := cup_row d2 _ _ (by decide)
          obtain ⟨v1, v2, v3, v4⟩ := adv_su (c0 := c) (s3.up q1 q2 q3 q4 q5) (s4.up q1 q4 q5) (Or.inr (Or.inl (by rw [q1]; exact z3))) k7 rfl k6 rfl
          have hf3 : d4 253 18 = 0 := by rw [v2.om.2.2, q4]; exact hf2
          rw [e3] at h2
          rcases h2 with ⟨w1, w2⟩ | ⟨w1, d5, r5, k9, h2⟩
          · omega
          · rcases pass_pr (i := 1) (by decide) v3 v4 hf3 k8 rfl rfl k9 rfl rfl rfl with ⟨f1, f2, f3, f4, f5, f6⟩ | ⟨f1, f2, f3⟩
            · have hf5 : d5 253 18 = 0 := f4.om.2.2.trans hf3
              have hn4 : d5 254 2976 = (np : Int) := by
                rw [f4.om.1 254 (by decide), v2.om.1 254 (by decide), cup_ne (by omega)]
                exact hD2.2.1.2.1
              rcases h2 with ⟨w2, w3⟩ | ⟨w2, d7, r8', k10, h2⟩
              · omega
              · rw [hn4, show w32 (2986 + (np : Int)) = ((2986 + np : Nat) : Int) by rw [w32_id (by omega) (by omega)]; omega] at k10
                rcases h with ⟨j1, c10, r11, k11, h⟩ | ⟨j1, j2⟩
                · rcases num_pr (lo := 0) (hi := 60) (to := ((2986 + np : Nat) : Int)) (by decide) f5 f6 hf5 k11 rfl rfl rfl k10 rfl rfl rfl rfl with ⟨i1, i2, i3, i4, i5, i6, i7⟩ | ⟨i1, i2, i3⟩
                  · rw [show (((2986 + np : Nat) : Int)).toNat = 2986 + np from rfl] at i5
                    have hn7 : d7 254 2976 = (np : Int) := by
                      rw [i5.om.1 254 (by decide), cup_ne (by omega)]
                      exact hn4
                    have hf7 : d7 253 18 = 0 := by
                      rw [i5.om.2.2, cup_ne (by omega)]
                      exact hf5
                    rcases h2 with ⟨w4, w5⟩ | ⟨w4, w5⟩
                    · obtain ⟨l1, l2⟩ := oI w5
                      rcases h with ⟨p1, p2⟩ | ⟨p1, c13, r14, k12, h⟩
                      · omega
                      · rw [hn7, show w32 ((np : Int) + 1) = ((np + 1 : Nat) : Int) from w32_id (by omega) (by omega)] at l1
                        rw [l1] at h'
                        have q6 : cup d7 254 2976 ((np + 1 : Nat) : Int) 253 = d7 253 := cup_row d7 _ _ (by decide)
                        have q7 : cup d7 254 2976 ((np + 1 : Nat) : Int) 260 = d7 260 := cup_row d7 _ _ (by decide)
                        rcases end_pr (np := np) (nq := nq) (i6.up rfl rfl rfl q6 q7) (i7.up rfl q6 q7) (by rw [q6]; exact hf7) k12 rfl h' h0' h1' (by omega) with ⟨o1, o2, o3, o4, o5, o6⟩ | ⟨o1, o2, o3⟩
                        · rcases h with ⟨p2, p3⟩ | ⟨p2, p3⟩
                          · obtain ⟨l3, l4⟩ := oI p3
                            have hc13 : O8 c13 (cup g2 47 np (g2 88 6)) := o3.o8.tr (i4.o8.tr (f3.o8.tr v1.o8))
                            have hn13 : c13 45 0 = (np : Int) := by
                              rw [hc13 45 (by decide), cup_ne (by omega)]
                              exact hD2.2.1.1
                            rw [hn13, show ((np : Int)).toNat = np from rfl, show w32 ((np : Int) + 1) = ((np + 1 : Nat) : Int) from w32_id (by omega) (by omega)] at l3
                            have hd' : OM d' (cup (cup (cup d2 255 (48 + np) V) 254 (2986 + np) r11) 254 2976 ((np + 1 : Nat) : Int)) := o4.om.tr ((i5.om.tr ((f4.om.tr v2.om).cup (by decide) _ _)).cup (by decide) _ _)
                            have hD' := (hD2.place (w := g2 88 6) (V := V) (r := r11) (by omega) z6).fr (((hc13.cup 46 np r11).cup 45 0 ((np + 1 : Nat) : Int))) hd'
                            have q8 : cup (cup c13 46 np r11) 45 0 ((np + 1 : Nat) : Int) 88 = c13 88 := by rw [cup_row _ _ _ (by decide), cup_row _ _ _ (by decide)]
                            have q9 : cup (cup c13 46 np r11) 45 0 ((np + 1 : Nat) : Int) 2 = c13 2 := by rw [cup_row _ _ _ (by decide), cup_row _ _ _ (by decide)]
                            have q10 : cup (cup c13 46 np r11) 45 0 ((np + 1 : Nat) : Int) 89 = c13 89 := by rw [cup_row _ _ _ (by decide), cup_row _ _ _ (by decide)]
                            refine Or.inl ⟨l4, o2, ⟨np + 1, nq, ?_⟩, ?_⟩
                            · rw [l3]
                              refine ⟨o5.up q8 q9 q10 rfl rfl, o6.up q8 rfl rfl, hD', ?_⟩
                              rw [o4.om.2.2, q6]
                              exact hf7
                            · rw [l3, q8]
                              have t1 := (adv_lt hE hT (Or.inl (tq_kk hT hk)) k2 rfl).2
                              have t2 := v1.2
                              rw [q1] at t2
                              have t3 := f3.2
                              have t4 := i4.2
                              have t5 := o3.2
                              omega
                          · omega
                        · rcases h with ⟨p2, p3⟩ | ⟨p2, p3⟩
                          · omega
                          · obtain ⟨l3, l4⟩ := oI p3
                            exact Or.inr ⟨l4, o2, by rw [l3]; exact o3⟩
                    · omega
                  · rcases h2 with ⟨w4, w5⟩ | ⟨w4, w5⟩
                    · omega
                    · obtain ⟨l1, l2⟩ := oI w5
                      rcases h with ⟨p1, p2⟩ | ⟨p1, p2⟩
                      · obtain ⟨l3, l4⟩ := oI p2
                        exact bad l2 l4 (by rw [l3, l1]; exact i3)
                      · omega
                · omega
            · rcases h2 with ⟨w2, w3⟩ | ⟨w2, w3⟩
              · obtain ⟨l1, l2⟩ := oI w3
                rcases h with ⟨j1, j2⟩ | ⟨j1, j2⟩
                · omega
                · obtain ⟨l3, l4⟩ := oI j2
                  exact bad l2 l4 (by rw [l3, l1]; exact f3)
              · omega
        · omega
      · obtain ⟨e1, e2⟩ := oI z2
        rcases h with ⟨u1, u2⟩ | ⟨u1, u2⟩
        · omega
        · obtain ⟨l3, l4⟩ := oI u2
          rcases h2 with ⟨w1, w2⟩ | ⟨w1, w2⟩
          · obtain ⟨l1, l2⟩ := oI w2
            exact bad l2 l4 (by rw [l3, l1, e1]; exact z4)
          · omega
    · rw [b2] at y1
      omega
  · rw [b1] at x1
    rcases m_newPlc k1 rfl rfl rfl rfl with ⟨y1, y2⟩ | ⟨y1, g21, r22, k3, y2⟩
    · rw [b2] at y1
      omega
    · obtain ⟨e1, e2⟩ := oI y2
      obtain ⟨e3, e4⟩ := oI h
      obtain ⟨z1, z2, z3⟩ := fail_pr hT hf (by decide) k2 rfl rfl k3 rfl rfl
      rcases h2 with ⟨w1, w2⟩ | ⟨w1, w2⟩
      · obtain ⟨l1, l2⟩ := oI w2
        exact bad l2 (by rw [e4, z1]) (by rw [e3, l1, e1]; exact z3)
      · omega
end Stm
end
