/-! what the reference's reader of a court says: printed by program (wip/tools/zmod.py) -/
section
set_option maxRecDepth 100000
theorem zy_21 : xg xcode 21 = some xt_21 := rfl
theorem zk_21 : zkc 0 xt_21 = true := by decide +kernel
theorem zy_165 : xg xcode 165 = some xt_165 := rfl
theorem zk_165 : zkc 1 xt_165 = true := by decide +kernel
theorem zy_170 : xg xcode 170 = some xt_170 := rfl
theorem zk_170 : zkc 1 xt_170 = true := by decide +kernel
theorem zy_171 : xg xcode 171 = some xt_171 := rfl
theorem zk_171 : zkc 1 xt_171 = true := by decide +kernel
theorem zy_174 : xg xcode 174 = some xt_174 := rfl
theorem zk_174 : zkc 1 xt_174 = true := by decide +kernel
theorem zy_178 : xg xcode 178 = some xt_178 := rfl
theorem zk_178 : zkc 1 xt_178 = true := by decide +kernel
theorem zy_179 : xg xcode 179 = some xt_179 := rfl
theorem zk_179 : zkc 1 xt_179 = true := by decide +kernel
theorem zy_180 : xg xcode 180 = some xt_180 := rfl
theorem zk_180 : zkc 1 xt_180 = true := by decide +kernel
theorem zy_182 : xg xcode 182 = some xt_182 := rfl
theorem zk_182 : zkc 1 xt_182 = true := by decide +kernel
theorem zy_185 : xg xcode 185 = some xt_185 := rfl
theorem zk_185 : zkc 1 xt_185 = true := by decide +kernel
theorem zy_186 : xg xcode 186 = some xt_186 := rfl
theorem zk_186 : zkc 1 xt_186 = true := by decide +kernel
theorem zy_187 : xg xcode 187 = some xt_187 := rfl
theorem zk_187 : zkc 1 xt_187 = true := by decide +kernel
theorem zy_188 : xg xcode 188 = some xt_188 := rfl
theorem zk_188 : zkc 1 xt_188 = true := by decide +kernel
theorem zy_190 : xg xcode 190 = some xt_190 := rfl
theorem zk_190 : zkc 1 xt_190 = true := by decide +kernel
theorem zy_191 : xg xcode 191 = some xt_191 := rfl
theorem zk_191 : zkc 1 xt_191 = true := by decide +kernel
theorem zy_192 : xg xcode 192 = some xt_192 := rfl
theorem zk_192 : zkc 1 xt_192 = true := by decide +kernel
theorem zy_274 : xg xcode 274 = some xt_274 := rfl
theorem zk_274 : zkc 1 xt_274 = true := by decide +kernel
theorem ztab_0_7 {z : Int} : z = 0 ∨ z = 1 ∨ z = 2 ∨ z = 3 ∨ z = 4 ∨ z = 5 ∨ z = 6 ∨ z = 7 ∨ (z < 0 ∨ 7 < z) := by omega
theorem dvb_254 {g : cg} {i : Int} (h0 : 0 ≤ i) (h1 : i < 5208) : dval xh2 g 254 i.toNat = (0, g 254 i.toNat) := dvb (show zck 254 13 5208 = true by decide +kernel) (by decide) h0 h1
theorem dvb_255 {g : cg} {i : Int} (h0 : 0 ≤ i) (h1 : i < 72) : dval xh2 g 255 i.toNat = (2, g 255 i.toNat) := dvbL (show zck 255 14 72 = true by decide +kernel) (by decide) h0 h1
theorem dvb_259 {g : cg} {i : Int} (h0 : 0 ≤ i) (h1 : i < 900) : dval xh2 g 259 i.toNat = (0, g 259 i.toNat) := dvb (show zck 259 15 900 = true by decide +kernel) (by decide) h0 h1
theorem m_find0 {sv : Nat → Int32} {L n : Nat} {lf : dlf} {g : cg} {o : cg × Option cv} {a b : Int} (h : zr sv L n 182 0 lf [] g o) (h0 : lf 0 = (4, 253)) (h1 : lf 1 = (0, a)) (h2 : lf 2 = (0, b)) : ∃ lf'1, lf'1 0 = (4, 253) ∧ lf'1 1 = (0, a) ∧ lf'1 2 = (0, b) ∧ lf'1 3 = (0, 0) ∧ zr sv L n 182 2 lf'1 [] g o := by
  rw [zov h0, zov h1, zov h2] at h
  have h := zm zy_182 h 2 (q := (2, dset (dset (dset (dset lf 2 (0, b)) 1 (0, a)) 0 (4, 253)) 3 (0, 0), [], g)) rfl
  dsimp only at h
  exact ⟨_, rfl, rfl, rfl, rfl, h⟩
theorem m_find2 {sv : Nat → Int32} {L n : Nat} {lf : dlf} {g : cg} {o : cg × Option cv} {a b c : Int} (h : zr sv L (n + 1) 182 2 lf [] g o) (h0 : lf 0 = (4, 253)) (h1 : lf 1 = (0, a)) (h2 : lf 2 = (0, b)) (h3 : lf 3 = (0, c)) : (b ≤ c ∧ (o = (g, some (0, (-1))))) ∨ (c < b ∧ (0 ≤ w32 (a + c) → w32 (a + c) < 72 → (∃ g4 r5, zr sv L n 183 0 (darg 0 [(4, 253)]) [] g (g4, some (2, r5)) ∧ ((csgn ((g 255 ((w32 (a + c)).toNat)) - r5) ≠ 0 ∧ (∃ lf'7, lf'7 0 = (4, 253) ∧ lf'7 1 = (0, a) ∧ lf'7 2 = (0, b) ∧ lf'7 3 = (0, w32 (c + 1)) ∧ zr sv L n 182 2 lf'7 [] g4 o)) ∨ (csgn ((g 255 ((w32 (a + c)).toNat)) - r5) = 0 ∧ (o = (g4, some (0, c)))))))) := by
  rw [zov h0, zov h1, zov h2, zov h3] at h
  have h := zm1 zy_182 h 2 (q := (cond (crel .ge c b) 31 7, dset (dset (dset (dset lf 3 (0, c)) 2 (0, b)) 1 (0, a)) 0 (4, 253), [], g)) rfl
  dsimp only at h
  rcases zif_ge h with ⟨hc1, h⟩ | ⟨hc1, h⟩
  · refine Or.inl ⟨hc1, ?_⟩
    have h := zm zy_182 h 1 (q := (32, dset (dset (dset (dset lf 3 (0, c)) 2 (0, b)) 1 (0, a)) 0 (4, 253), [(0, (-1))], g)) rfl
    dsimp only at h
    exact zret zy_182 h rfl rfl
  · refine Or.inr ⟨hc1, ?_⟩
    intro ha2 hb3
    have h := zm zy_182 h 5 (q := (14, dset (dset (dset (dset lf 3 (0, c)) 2 (0, b)) 1 (0, a)) 0 (4, 253), [(0, w32 (a + c)), (4, 255)], g)) rfl
    dsimp only at h
    have h := zald zy_182 h rfl rfl (dvb_255 ha2 hb3)
    have h : zr sv L n 182 15 (dset (dset (dset (dset lf 3 (0, c)) 2 (0, b)) 1 (0, a)) 0 (4, 253)) [(2, g 255 ((w32 (a + c)).toNat))] (g) o := by first | exact h | (rw [cup_at] at h; exact h)
    have h := zm zy_182 h 1 (q := (16, dset (dset (dset (dset lf 3 (0, c)) 2 (0, b)) 1 (0, a)) 0 (4, 253), [(4, 253), (2, g 255 ((w32 (a + c)).toNat))], g)) rfl
    dsimp only at h
    obtain ⟨g4, r5, hk, h⟩ := zcallL zy_182 h rfl rfl zy_183 zk_183
    dsimp only at hk h
    refine ⟨g4, r5, hk, ?_⟩
    have h := zm zy_182 h 2 (q := (cond (crel .ne (csgn ((g 255 ((w32 (a + c)).toNat)) - r5)) 0) 25 23, dset (dset (dset (dset lf 3 (0, c)) 2 (0, b)) 1 (0, a)) 0 (4, 253), [], g4)) rfl
    dsimp only at h
    rcases zif_ne h with ⟨hc6, h⟩ | ⟨hc6, h⟩
    · refine Or.inl ⟨hc6, ?_⟩
      have h := zm zy_182 h 2 (q := (2, dset (dset (dset (dset (dset lf 3 (0, c)) 2 (0, b)) 1 (0, a)) 0 (4, 253)) 3 (0, w32 (c + 1)), [], g4)) rfl
      dsimp only at h
      exact ⟨_, rfl, rfl, rfl, rfl, h⟩
    · refine Or.inr ⟨hc6, ?_⟩
      have h := zm zy_182 h 1 (q := (24, dset (dset (dset (dset lf 3 (0, c)) 2 (0, b)) 1 (0, a)) 0 (4, 253), [(0, c)], g4)) rfl
      dsimp only at h
      exact zret zy_182 h rfl rfl
theorem m_old {sv : Nat → Int32} {L n : Nat} {lf : dlf} {g : cg} {o : cg × Option cv} {a b c : Int} (h : zr sv L n 180 0 lf [] g o) (h0 : lf 0 = (4, 253)) (h1 : lf 1 = (0, a)) (h2 : lf 2 = (0, b)) (h3 : lf 3 = (0, c)) : ∃ g1 r2, zr sv L n 181 0 (darg 0 [(4, 253), (6, 3)]) [] g (g1, some (0, r2)) ∧ ((r2 ≠ 0 ∧ (∃ g4 r5, zr sv L n 182 0 (darg 0 [(4, 253), (0, a), (0, b)]) [] g1 (g4, some (0, r5)) ∧ (0 ≤ c → c < 5208 → ((r5 ≠ (-1) ∧ (∃ g9, zr sv L n 166 0 (darg 0 [(4, 253)]) [] (cup g4 254 ((c).toNat) r5) (g9, none) ∧ (o = (g9, some (0, 1))))) ∨ (r5 = (-1) ∧ (∃ g10 r11, zr sv L n 173 0 (darg 0 [(4, 253), (0, 3)]) [] (cup g4 254 ((c).toNat) r5) (g10, some (0, r11)) ∧ (o = (g10, some (0, r11))))))))) ∨ (r2 = 0 ∧ (∃ g12 r13, zr sv L n 173 0 (darg 0 [(4, 253), (0, 2)]) [] g1 (g12, some (0, r13)) ∧ (o = (g12, some (0, r13)))))) := by
  rw [zov h0, zov h1, zov h2, zov h3] at h
  have h := zm zy_180 h 2 (q := (3, dset (dset (dset (dset lf 3 (0, c)) 2 (0, b)) 1 (0, a)) 0 (4, 253), [(6, 3), (4, 253)], g)) rfl
  dsimp only at h
  obtain ⟨g1, r2, hk, h⟩ := zcallI zy_180 h rfl rfl zy_181 zk_181
  dsimp only at hk h
  refine ⟨g1, r2, hk, ?_⟩
  have h := zm zy_180 h 1 (q := (cond (crel .ne r2 0) 15 9, dset (dset (dset (dset lf 3 (0, c)) 2 (0, b)) 1 (0, a)) 0 (4, 253), [], g1)) rfl
  dsimp only at h
  rcases zif_ne h with ⟨hc3, h⟩ | ⟨hc3, h⟩
  · refine Or.inl ⟨hc3, ?_⟩
    have h := zm zy_180 h 6 (q := (23, dset (dset (dset (dset lf 3 (0, c)) 2 (0, b)) 1 (0, a)) 0 (4, 253), [(0, b), (0, a), (4, 253), (0, c), (4, 254)], g1)) rfl
    dsimp only at h
    obtain ⟨g4, r5, hk, h⟩ := zcallI zy_180 h rfl rfl zy_182 zk_182
    dsimp only at hk h
    refine ⟨g4, r5, hk, ?_⟩
    intro ha6 hb7
    have h := zm zy_180 h 4 (q := (32, dset (dset (dset (dset lf 3 (0, c)) 2 (0, b)) 1 (0, a)) 0 (4, 253), [(0, c), (4, 254)], cup g4 254 ((c).toNat) r5)) rfl
    dsimp only at h
    have h := zald zy_180 h rfl rfl (dvb_254 ha6 hb7)
    have h : zr sv L n 180 33 (dset (dset (dset (dset lf 3 (0, c)) 2 (0, b)) 1 (0, a)) 0 (4, 253)) [(0, r5)] (cup g4 254 ((c).toNat) r5) o := by first | exact h | (rw [cup_at] at h; exact h)
    have h := zm zy_180 h 2 (q := (cond (crel .ne r5 ((-1))) 43 37, dset (dset (dset (dset lf 3 (0, c)) 2 (0, b)) 1 (0, a)) 0 (4, 253), [], cup g4 254 ((c).toNat) r5)) rfl
    dsimp only at h
    rcases zif_ne h with ⟨hc8, h⟩ | ⟨hc8, h⟩
    · refine Or.inl ⟨hc8, ?_⟩
      have h := zm zy_180 h 1 (q := (44, dset (dset (dset (dset lf 3 (0, c)) 2 (0, b)) 1 (0, a)) 0 (4, 253), [(4, 253)], cup g4 254 ((c).toNat) r5)) rfl
      dsimp only at h
      obtain ⟨g9, hk, h⟩ := zcallV zy_180 h rfl rfl zy_166 zk_166
      dsimp only at hk h
      refine ⟨g9, hk, ?_⟩
      have h := zm zy_180 h 1 (q := (48, dset (dset (dset (dset lf 3 (0, c)) 2 (0, b)) 1 (0, a)) 0 (4, 253), [(0, 1)], g9)) rfl
      dsimp only at h
      exact zret zy_180 h rfl rfl
    · refine Or.inr ⟨hc8, ?_⟩
      have h := zm zy_180 h 2 (q := (39, dset (dset (dset (dset lf 3 (0, c)) 2 (0, b)) 1 (0, a)) 0 (4, 253), [(0, 3), (4, 253)], cup g4 254 ((c).toNat) r5)) rfl
      dsimp only at h
      obtain ⟨g10, r11, hk, h⟩ := zcallI zy_180 h rfl rfl zy_173 zk_173
      dsimp only at hk h
      refine ⟨g10, r11, hk, ?_⟩
      exact zret zy_180 h rfl rfl
  · refine Or.inr ⟨hc3, ?_⟩
    have h := zm zy_180 h 2 (q := (11, dset (dset (dset (dset lf 3 (0, c)) 2 (0, b)) 1 (0, a)) 0 (4, 253), [(0, 2), (4, 253)], g1)) rfl
    dsimp only at h
    obtain ⟨g12, r13, hk, h⟩ := zcallI zy_180 h rfl rfl zy_173 zk_173
    dsimp only at hk h
    refine ⟨g12, r13, hk, ?_⟩
    exact zret zy_180 h rfl rfl
theorem m_newPer {sv : Nat → Int32} {L n : Nat} {lf : dlf} {g : cg} {o : cg × Option cv} {a : Int} (h : zr sv L n 179 0 lf [] g o) (h0 : lf 0 = (4, 253)) (h1 : lf 1 = (0, a)) : ∃ g1 r2, zr sv L n 180 0 (darg 0 [(4, 253), (0, 53), (0, g 254 2977), (0, a)]) [] g (g1, some (0, r2)) ∧ (o = (g1, some (0, r2))) := by
  rw [zov h0, zov h1] at h
  have h := zm zy_179 h 7 (q := (12, dset (dset lf 1 (0, a)) 0 (4, 253), [(0, a), (0, g 254 2977), (0, 53), (4, 253)], g)) rfl
  dsimp only at h
  obtain ⟨g1, r2, hk, h⟩ := zcallI zy_179 h rfl rfl zy_180 zk_180
  dsimp only at hk h
  refine ⟨g1, r2, hk, ?_⟩
  exact zret zy_179 h rfl rfl
theorem m_newPlc {sv : Nat → Int32} {L n : Nat} {lf : dlf} {g : cg} {o : cg × Option cv} (h : zr sv L n 188 0 lf [] g o) (h0 : lf 0 = (4, 253)) (h1 : lf 1 = (0, 0)) (h2 : lf 2 = (0, 5)) (h3 : lf 3 = (0, 0)) : (g 254 2976 ≠ 5 ∧ (∃ g2, zr sv L n 166 0 (darg 0 [(4, 253)]) [] g (g2, none) ∧ (∃ g3 r4, zr sv L n 181 0 (darg 0 [(4, 253), (6, 3)]) [] g2 (g3, some (0, r4)) ∧ ((r4 ≠ 0 ∧ (∃ g6 r7, zr sv L n 182 0 (darg 0 [(4, 253), (0, 48), (0, g3 254 2976)]) [] g3 (g6, some (0, r7)) ∧ ((r7 ≠ (-1) ∧ (∃ g9 r10, zr sv L n 173 0 (darg 0 [(4, 253), (0, 3)]) [] g6 (g9, some (0, r10)) ∧ (o = (g9, some (0, r10))))) ∨ (r7 = (-1) ∧ (∃ g11 r12, zr sv L n 182 0 (darg 0 [(4, 253), (0, 53), (0, g6 254 2977)]) [] g6 (g11, some (0, r12)) ∧ ((r12 = (-1) ∧ (∃ g14 r15, zr sv L n 183 0 (darg 0 [(4, 253)]) [] g11 (g14, some (2, r15)) ∧ (∃ g16, zr sv L n 166 0 (darg 0 [(4, 253)]) [] (cup g14 255 ((w32 (48 + (g11 254 2976))).toNat) r15) (g16, none) ∧ (o = (g16, some (0, 1)))))) ∨ (r12 ≠ (-1) ∧ (∃ g17 r18, zr sv L n 173 0 (darg 0 [(4, 253), (0, 3)]) [] g11 (g17, some (0, r18)) ∧ (o = (g17, some (0, r18))))))))))) ∨ (r4 = 0 ∧ (∃ g19 r20, zr sv L n 173 0 (darg 0 [(4, 253), (0, 2)]) [] g3 (g19, some (0, r20)) ∧ (o = (g19, some (0, r20))))))))) ∨ (g 254 2976 = 5 ∧ (∃ g21 r22, zr sv L n 173 0 (darg 0 [(4, 253), (0, 6)]) [] g (g21, some (0, r22)) ∧ (o = (g21, some (0, r22))))) := by
  rw [zov h0, zov h1, zov h2, zov h3] at h
  have h := zm zy_188 h 8 (q := (cond (crel .ne (g 254 2976) 5) 21 14, dset (dset (dset (dset lf 3 (0, 0)) 2 (0, 5)) 1 (0, 0)) 0 (4, 253), [], g)) rfl
  dsimp only at h
  rcases zif_ne h with ⟨hc1, h⟩ | ⟨hc1, h⟩
  · refine Or.inl ⟨hc1, ?_⟩
    have h := zm zy_188 h 1 (q := (22, dset (dset (dset (dset lf 3 (0, 0)) 2 (0, 5)) 1 (0, 0)) 0 (4, 253), [(4, 253)], g)) rfl
    dsimp only at h
    obtain ⟨g2, hk, h⟩ := zcallV zy_188 h rfl rfl zy_166 zk_166
    dsimp only at hk h
    refine ⟨g2, hk, ?_⟩
    have h := zm zy_188 h 2 (q := (28, dset (dset (dset (dset lf 3 (0, 0)) 2 (0, 5)) 1 (0, 0)) 0 (4, 253), [(6, 3), (4, 253)], g2)) rfl
    dsimp only at h
    obtain ⟨g3, r4, hk, h⟩ := zcallI zy_188 h rfl rfl zy_181 zk_181
    dsimp only at hk h
    refine ⟨g3, r4, hk, ?_⟩
    have h := zm zy_188 h 1 (q := (cond (crel .ne r4 0) 40 34, dset (dset (dset (dset lf 3 (0, 0)) 2 (0, 5)) 1 (0, 0)) 0 (4, 253), [], g3)) rfl
    dsimp only at h
    rcases zif_ne h with ⟨hc5, h⟩ | ⟨hc5, h⟩
    · refine Or.inl ⟨hc5, ?_⟩
      have h := zm zy_188 h 6 (q := (51, dset (dset (dset (dset lf 3 (0, 0)) 2 (0, 5)) 1 (0, 0)) 0 (4, 253), [(0, g3 254 2976), (0, 48), (4, 253)], g3)) rfl
      dsimp only at h
      obtain ⟨g6, r7, hk, h⟩ := zcallI zy_188 h rfl rfl zy_182 zk_182
      dsimp only at hk h
      refine ⟨g6, r7, hk, ?_⟩
      have h := zm zy_188 h 2 (q := (cond (crel .ne r7 ((-1))) 76 58, dset (dset (dset (dset lf 3 (0, 0)) 2 (0, 5)) 1 (0, 0)) 0 (4, 253), [], g6)) rfl
      dsimp only at h
      rcases zif_ne h with ⟨hc8, h⟩ | ⟨hc8, h⟩
      · refine Or.inl ⟨hc8, ?_⟩
        have h := zm zy_188 h 2 (q := (78, dset (dset (dset (dset lf 3 (0, 0)) 2 (0, 5)) 1 (0, 0)) 0 (4, 253), [(0, 3), (4, 253)], g6)) rfl
        dsimp only at h
        obtain ⟨g9, r10, hk, h⟩ := zcallI zy_188 h rfl rfl zy_173 zk_173
        dsimp only at hk h
        refine ⟨g9, r10, hk, ?_⟩
        exact zret zy_188 h rfl rfl
      · refine Or.inr ⟨hc8, ?_⟩
        have h := zm zy_188 h 6 (q := (69, dset (dset (dset (dset lf 3 (0, 0)) 2 (0, 5)) 1 (0, 0)) 0 (4, 253), [(0, g6 254 2977), (0, 53), (4, 253)], g6)) rfl
        dsimp only at h
        obtain ⟨g11, r12, hk, h⟩ := zcallI zy_188 h rfl rfl zy_182 zk_182
        dsimp only at hk h
        refine ⟨g11, r12, hk, ?_⟩
        have h := zm zy_188 h 2 (q := (cond (crel .eq r12 ((-1))) 82 76, dset (dset (dset (dset lf 3 (0, 0)) 2 (0, 5)) 1 (0, 0)) 0 (4, 253), [], g11)) rfl
        dsimp only at h
        rcases zif_eq h with ⟨hc13, h⟩ | ⟨hc13, h⟩
        · refine Or.inl ⟨hc13, ?_⟩
          have h := zm zy_188 h 13 (q := (102, dset (dset (dset (dset lf 3 (0, 0)) 2 (0, 5)) 1 (0, 0)) 0 (4, 253), [(4, 253), (0, w32 (48 + (g11 254 2976))), (4, 255)], g11)) rfl
          dsimp only at h
          obtain ⟨g14, r15, hk, h⟩ := zcallL zy_188 h rfl rfl zy_183 zk_183
          dsimp only at hk h
          refine ⟨g14, r15, hk, ?_⟩
          have h := zm zy_188 h 2 (q := (107, dset (dset (dset (dset lf 3 (0, 0)) 2 (0, 5)) 1 (0, 0)) 0 (4, 253), [(4, 253)], cup g14 255 ((w32 (48 + (g11 254 2976))).toNat) r15)) rfl
          dsimp only at h
          obtain ⟨g16, hk, h⟩ := zcallV zy_188 h rfl rfl zy_166 zk_166
          dsimp only at hk h
          refine ⟨g16, hk, ?_⟩
          have h := zm zy_188 h 1 (q := (111, dset (dset (dset (dset lf 3 (0, 0)) 2 (0, 5)) 1 (0, 0)) 0 (4, 253), [(0, 1)], g16)) rfl
          dsimp only at h
          exact zret zy_188 h rfl rfl
        · refine Or.inr ⟨hc13, ?_⟩
          have h := zm zy_188 h 2 (q := (78, dset (dset (dset (dset lf 3 (0, 0)) 2 (0, 5)) 1 (0, 0)) 0 (4, 253), [(0, 3), (4, 253)], g11)) rfl
          dsimp only at h
          obtain ⟨g17, r18, hk, h⟩ := zcallI zy_188 h rfl rfl zy_173 zk_173
          dsimp only at hk h
          refine ⟨g17, r18, hk, ?_⟩
          exact zret zy_188 h rfl rfl
    · refine Or.inr ⟨hc5, ?_⟩
      have h := zm zy_188 h 2 (q := (36, dset (dset (dset (dset lf 3 (0, 0)) 2 (0, 5)) 1 (0, 0)) 0 (4, 253), [(0, 2), (4, 253)], g3)) rfl
      dsimp only at h
      obtain ⟨g19, r20, hk, h⟩ := zcallI zy_188 h rfl rfl zy_173 zk_173
      dsimp only at hk h
      refine ⟨g19, r20, hk, ?_⟩
      exact zret zy_188 h rfl rfl
  · refine Or.inr ⟨hc1, ?_⟩
    have h := zm zy_188 h 2 (q := (17, dset (dset (dset (dset lf 3 (0, 0)) 2 (0, 5)) 1 (0, 0)) 0 (4, 253), [(0, 6), (4, 253)], g)) rfl
    dsimp only at h
    obtain ⟨g21, r22, hk, h⟩ := zcallI zy_188 h rfl rfl zy_173 zk_173
    dsimp only at hk h
    refine ⟨g21, r22, hk, ?_⟩
    exact zret zy_188 h rfl rfl
theorem m_newPers {sv : Nat → Int32} {L n : Nat} {lf : dlf} {g : cg} {o : cg × Option cv} (h : zr sv L n 188 0 lf [] g o) (h0 : lf 0 = (4, 253)) (h1 : lf 1 = (0, 1)) (h2 : lf 2 = (0, 6)) (h3 : lf 3 = (0, 5)) : (g 254 2977 ≠ 6 ∧ (∃ g2, zr sv L n 166 0 (darg 0 [(4, 253)]) [] g (g2, none) ∧ (∃ g3 r4, zr sv L n 181 0 (darg 0 [(4, 253), (6, 3)]) [] g2 (g3, some (0, r4)) ∧ ((r4 ≠ 0 ∧ (∃ g6 r7, zr sv L n 182 0 (darg 0 [(4, 253), (0, 48), (0, g3 254 2976)]) [] g3 (g6, some (0, r7)) ∧ ((r7 ≠ (-1) ∧ (∃ g9 r10, zr sv L n 173 0 (darg 0 [(4, 253), (0, 3)]) [] g6 (g9, some (0, r10)) ∧ (o = (g9, some (0, r10))))) ∨ (r7 = (-1) ∧ (∃ g11 r12, zr sv L n 182 0 (darg 0 [(4, 253), (0, 53), (0, g6 254 2977)]) [] g6 (g11, some (0, r12)) ∧ ((r12 = (-1) ∧ (∃ g14 r15, zr sv L n 183 0 (darg 0 [(4, 253)]) [] g11 (g14, some (2, r15)) ∧ (∃ g16, zr sv L n 166 0 (darg 0 [(4, 253)]) [] (cup g14 255 ((w32 (53 + (g11 254 2977))).toNat) r15) (g16, none) ∧ (o = (g16, some (0, 1)))))) ∨ (r12 ≠ (-1) ∧ (∃ g17 r18, zr sv L n 173 0 (darg 0 [(4, 253), (0, 3)]) [] g11 (g17, some (0, r18)) ∧ (o = (g17, some (0, r18))))))))))) ∨ (r4 = 0 ∧ (∃ g19 r20, zr sv L n 173 0 (darg 0 [(4, 253), (0, 2)]) [] g3 (g19, some (0, r20)) ∧ (o = (g19, some (0, r20))))))))) ∨ (g 254 2977 = 6 ∧ (∃ g21 r22, zr sv L n 173 0 (darg 0 [(4, 253), (0, 6)]) [] g (g21, some (0, r22)) ∧ (o = (g21, some (0, r22))))) := by
  rw [zov h0, zov h1, zov h2, zov h3] at h
  have h := zm zy_188 h 8 (q := (cond (crel .ne (g 254 2977) 6) 21 14, dset (dset (dset (dset lf 3 (0, 5)) 2 (0, 6)) 1 (0, 1)) 0 (4, 253), [], g)) rfl
  dsimp only at h
  rcases zif_ne h with ⟨hc1, h⟩ | ⟨hc1, h⟩
  · refine Or.inl ⟨hc1, ?_⟩
    have h := zm zy_188 h 1 (q := (22, dset (dset (dset (dset lf 3 (0, 5)) 2 (0, 6)) 1 (0, 1)) 0 (4, 253), [(4, 253)], g)) rfl
    dsimp only at h
    obtain ⟨g2, hk, h⟩ := zcallV zy_188 h rfl rfl zy_166 zk_166
    dsimp only at hk h
    refine ⟨g2, hk, ?_⟩
    have h := zm zy_188 h 2 (q := (28, dset (dset (dset (dset lf 3 (0, 5)) 2 (0, 6)) 1 (0, 1)) 0 (4, 253), [(6, 3), (4, 253)], g2)) rfl
    dsimp only at h
    obtain ⟨g3, r4, hk, h⟩ := zcallI zy_188 h rfl rfl zy_181 zk_181
    dsimp only at hk h
    refine ⟨g3, r4, hk, ?_⟩
    have h := zm zy_188 h 1 (q := (cond (crel .ne r4 0) 40 34, dset (dset (dset (dset lf 3 (0, 5)) 2 (0, 6)) 1 (0, 1)) 0 (4, 253), [], g3)) rfl
    dsimp only at h
    rcases zif_ne h with ⟨hc5, h⟩ | ⟨hc5, h⟩
    · refine Or.inl ⟨hc5, ?_⟩
      have h := zm zy_188 h 6 (q := (51, dset (dset (dset (dset lf 3 (0, 5)) 2 (0, 6)) 1 (0, 1)) 0 (4, 253), [(0, g3 254 2976), (0, 48), (4, 253)], g3)) rfl
      dsimp only at h
      obtain ⟨g6, r7, hk, h⟩ := zcallI zy_188 h rfl rfl zy_182 zk_182
      dsimp only at hk h
      refine ⟨g6, r7, hk, ?_⟩
      have h := zm zy_188 h 2 (q := (cond (crel .ne r7 ((-1))) 76 58, dset (dset (dset (dset lf 3 (0, 5)) 2 (0, 6)) 1 (0, 1)) 0 (4, 253), [], g6)) rfl
      dsimp only at h
      rcases zif_ne h with ⟨hc8, h⟩ | ⟨hc8, h⟩
      · refine Or.inl ⟨hc8, ?_⟩
        have h := zm zy_188 h 2 (q := (78, dset (dset (dset (dset lf 3 (0, 5)) 2 (0, 6)) 1 (0, 1)) 0 (4, 253), [(0, 3), (4, 253)], g6)) rfl
        dsimp only at h
        obtain ⟨g9, r10, hk, h⟩ := zcallI zy_188 h rfl rfl zy_173 zk_173
        dsimp only at hk h
        refine ⟨g9, r10, hk, ?_⟩
        exact zret zy_188 h rfl rfl
      · refine Or.inr ⟨hc8, ?_⟩
        have h := zm zy_188 h 6 (q := (69, dset (dset (dset (dset lf 3 (0, 5)) 2 (0, 6)) 1 (0, 1)) 0 (4, 253), [(0, g6 254 2977), (0, 53), (4, 253)], g6)) rfl
        dsimp only at h
        obtain ⟨g11, r12, hk, h⟩ := zcallI zy_188 h rfl rfl zy_182 zk_182
        dsimp only at hk h
        refine ⟨g11, r12, hk, ?_⟩
        have h := zm zy_188 h 2 (q := (cond (crel .eq r12 ((-1))) 82 76, dset (dset (dset (dset lf 3 (0, 5)) 2 (0, 6)) 1 (0, 1)) 0 (4, 253), [], g11)) rfl
        dsimp only at h
        rcases zif_eq h with ⟨hc13, h⟩ | ⟨hc13, h⟩
        · refine Or.inl ⟨hc13, ?_⟩
          have h := zm zy_188 h 13 (q := (102, dset (dset (dset (dset lf 3 (0, 5)) 2 (0, 6)) 1 (0, 1)) 0 (4, 253), [(4, 253), (0, w32 (53 + (g11 254 2977))), (4, 255)], g11)) rfl
          dsimp only at h
          obtain ⟨g14, r15, hk, h⟩ := zcallL zy_188 h rfl rfl zy_183 zk_183
          dsimp only at hk h
          refine ⟨g14, r15, hk, ?_⟩
          have h := zm zy_188 h 2 (q := (107, dset (dset (dset (dset lf 3 (0, 5)) 2 (0, 6)) 1 (0, 1)) 0 (4, 253), [(4, 253)], cup g14 255 ((w32 (53 + (g11 254 2977))).toNat) r15)) rfl
          dsimp only at h
          obtain ⟨g16, hk, h⟩ := zcallV zy_188 h rfl rfl zy_166 zk_166
          dsimp only at hk h
          refine ⟨g16, hk, ?_⟩
          have h := zm zy_188 h 1 (q := (111, dset (dset (dset (dset lf 3 (0, 5)) 2 (0, 6)) 1 (0, 1)) 0 (4, 253), [(0, 1)], g16)) rfl
          dsimp only at h
          exact zret zy_188 h rfl rfl
        · refine Or.inr ⟨hc13, ?_⟩
          have h := zm zy_188 h 2 (q := (78, dset (dset (dset (dset lf 3 (0, 5)) 2 (0, 6)) 1 (0, 1)) 0 (4, 253), [(0, 3), (4, 253)], g11)) rfl
          dsimp only at h
          obtain ⟨g17, r18, hk, h⟩ := zcallI zy_188 h rfl rfl zy_173 zk_173
          dsimp only at hk h
          refine ⟨g17, r18, hk, ?_⟩
          exact zret zy_188 h rfl rfl
    · refine Or.inr ⟨hc5, ?_⟩
      have h := zm zy_188 h 2 (q := (36, dset (dset (dset (dset lf 3 (0, 5)) 2 (0, 6)) 1 (0, 1)) 0 (4, 253), [(0, 2), (4, 253)], g3)) rfl
      dsimp only at h
      obtain ⟨g19, r20, hk, h⟩ := zcallI zy_188 h rfl rfl zy_173 zk_173
      dsimp only at hk h
      refine ⟨g19, r20, hk, ?_⟩
      exact zret zy_188 h rfl rfl
  · refine Or.inr ⟨hc1, ?_⟩
    have h := zm zy_188 h 2 (q := (17, dset (dset (dset (dset lf 3 (0, 5)) 2 (0, 6)) 1 (0, 1)) 0 (4, 253), [(0, 6), (4, 253)], g)) rfl
    dsimp only at h
    obtain ⟨g21, r22, hk, h⟩ := zcallI zy_188 h rfl rfl zy_173 zk_173
    dsimp only at hk h
    refine ⟨g21, r22, hk, ?_⟩
    exact zret zy_188 h rfl rfl
theorem m_aPlace {sv : Nat → Int32} {L n : Nat} {lf : dlf} {g : cg} {o : cg × Option cv} (h : zr sv L n 190 0 lf [] g o) (h0 : lf 0 = (4, 253)) : ∃ g1 r2, zr sv L n 188 0 (darg 0 [(4, 253), (0, 0), (0, 5), (0, 0)]) [] g (g1, some (0, r2)) ∧ ((r2 = 0 ∧ (o = (g1, some (0, 0)))) ∨ (r2 ≠ 0 ∧ (∃ g4 r5, zr sv L n 184 0 (darg 0 [(4, 253), (6, 3), (0, 8)]) [] g1 (g4, some (0, r5)) ∧ ((r5 = 0 ∧ (o = (g4, some (0, 0)))) ∨ (r5 ≠ 0 ∧ (∃ g7 r8, zr sv L n 175 0 (darg 0 [(4, 253), (0, w32 (2986 + (g4 254 2976))), (0, 0), (0, 60)]) [] g4 (g7, some (0, r8)) ∧ ((r8 ≠ 0 ∧ (o = (cup g7 254 2976 (w32 ((g7 254 2976) + 1)), some (0, 1)))) ∨ (r8 = 0 ∧ (o = (g7, some (0, 0))))))))))) := by
  rw [zov h0] at h
  have h := zm zy_190 h 4 (q := (4, dset lf 0 (4, 253), [(0, 0), (0, 5), (0, 0), (4, 253)], g)) rfl
  dsimp only at h
  obtain ⟨g1, r2, hk, h⟩ := zcallI zy_190 h rfl rfl zy_188 zk_188
  dsimp only at hk h
  refine ⟨g1, r2, hk, ?_⟩
  have h := zm zy_190 h 1 (q := (cond (crel .eq r2 0) 43 10, dset lf 0 (4, 253), [], g1)) rfl
  dsimp only at h
  rcases zif_eq h with ⟨hc3, h⟩ | ⟨hc3, h⟩
  · refine Or.inl ⟨hc3, ?_⟩
    have h := zm zy_190 h 1 (q := (44, dset lf 0 (4, 253), [(0, 0)], g1)) rfl
    dsimp only at h
    exact zret zy_190 h rfl rfl
  · refine Or.inr ⟨hc3, ?_⟩
    have h := zm zy_190 h 3 (q := (15, dset lf 0 (4, 253), [(0, 8), (6, 3), (4, 253)], g1)) rfl
    dsimp only at h
    obtain ⟨g4, r5, hk, h⟩ := zcallI zy_190 h rfl rfl zy_184 zk_184
    dsimp only at hk h
    refine ⟨g4, r5, hk, ?_⟩
    have h := zm zy_190 h 1 (q := (cond (crel .eq r5 0) 43 21, dset lf 0 (4, 253), [], g4)) rfl
    dsimp only at h
    rcases zif_eq h with ⟨hc6, h⟩ | ⟨hc6, h⟩
    · refine Or.inl ⟨hc6, ?_⟩
      have h := zm zy_190 h 1 (q := (44, dset lf 0 (4, 253), [(0, 0)], g4)) rfl
      dsimp only at h
      exact zret zy_190 h rfl rfl
    · refine Or.inr ⟨hc6, ?_⟩
      have h := zm zy_190 h 9 (q := (37, dset lf 0 (4, 253), [(0, 60), (0, 0), (0, w32 (2986 + (g4 254 2976))), (4, 253)], g4)) rfl
      dsimp only at h
      obtain ⟨g7, r8, hk, h⟩ := zcallI zy_190 h rfl rfl zy_175 zk_175
      dsimp only at hk h
      refine ⟨g7, r8, hk, ?_⟩
      have h := zm zy_190 h 1 (q := (cond (crel .ne r8 0) 45 43, dset lf 0 (4, 253), [], g7)) rfl
      dsimp only at h
      rcases zif_ne h with ⟨hc9, h⟩ | ⟨hc9, h⟩
      · refine Or.inl ⟨hc9, ?_⟩
        have h := zm zy_190 h 9 (q := (58, dset lf 0 (4, 253), [(0, 1)], cup g7 254 2976 (w32 ((g7 254 2976) + 1)))) rfl
        dsimp only at h
        exact zret zy_190 h rfl rfl
      · refine Or.inr ⟨hc9, ?_⟩
        have h := zm zy_190 h 1 (q := (44, dset lf 0 (4, 253), [(0, 0)], g7)) rfl
        dsimp only at h
        exact zret zy_190 h rfl rfl
theorem m_aPerson {sv : Nat → Int32} {L n : Nat} {lf : dlf} {g : cg} {o : cg × Option cv} (h : zr sv L n 187 0 lf [] g o) (h0 : lf 0 = (4, 253)) : ∃ g1 r2, zr sv L n 188 0 (darg 0 [(4, 253), (0, 1), (0, 6), (0, 5)]) [] g (g1, some (0, r2)) ∧ ((r2 = 0 ∧ (o = (g1, some (0, 0)))) ∨ (r2 ≠ 0 ∧ (∃ g4 r5, zr sv L n 184 0 (darg 0 [(4, 253), (6, 3), (0, 9)]) [] g1 (g4, some (0, r5)) ∧ ((r5 = 0 ∧ (o = (g4, some (0, 0)))) ∨ (r5 ≠ 0 ∧ (∃ g7 r8, zr sv L n 175 0 (darg 0 [(4, 253), (0, w32 (2991 + (w32 (6 * (g 254 2977))))), (0, 0), (0, 999)]) [] g4 (g7, some (0, r8)) ∧ ((r8 ≠ 0 ∧ (∃ g10 r11, zr sv L n 189 0 (darg 0 [(4, 253), (0, 10)]) [] g7 (g10, some (0, r11)) ∧ ((r11 = 0 ∧ (∃ g13 r14, zr sv L n 189 0 (darg 0 [(4, 253), (0, 11)]) [] (cup g10 254 ((w32 ((w32 (2991 + (w32 (6 * (g 254 2977))))) + 1)).toNat) 0) (g13, some (0, r14)) ∧ ((r14 = 0 ∧ (o = (cup (cup (cup g13 254 ((w32 ((w32 (2991 + (w32 (6 * (g 254 2977))))) + 2)).toNat) 0) 254 ((w32 ((w32 (2991 + (w32 (6 * (g 254 2977))))) + 3)).toNat) ((-1))) 254 2977 (w32 (((cup (cup g13 254 ((w32 ((w32 (2991 + (w32 (6 * (g 254 2977))))) + 2)).toNat) 0) 254 ((w32 ((w32 (2991 + (w32 (6 * (g 254 2977))))) + 3)).toNat) ((-1))) 254 2977) + 1)), some (0, 1)))) ∨ (r14 ≠ 0 ∧ (o = (cup (cup (cup g13 254 ((w32 ((w32 (2991 + (w32 (6 * (g 254 2977))))) + 2)).toNat) 1) 254 ((w32 ((w32 (2991 + (w32 (6 * (g 254 2977))))) + 3)).toNat) ((-1))) 254 2977 (w32 (((cup (cup g13 254 ((w32 ((w32 (2991 + (w32 (6 * (g 254 2977))))) + 2)).toNat) 1) 254 ((w32 ((w32 (2991 + (w32 (6 * (g 254 2977))))) + 3)).toNat) ((-1))) 254 2977) + 1)), some (0, 1))))))) ∨ (r11 ≠ 0 ∧ (∃ g16 r17, zr sv L n 189 0 (darg 0 [(4, 253), (0, 11)]) [] (cup g10 254 ((w32 ((w32 (2991 + (w32 (6 * (g 254 2977))))) + 1)).toNat) 1) (g16, some (0, r17)) ∧ ((r17 = 0 ∧ (o = (cup (cup (cup g16 254 ((w32 ((w32 (2991 + (w32 (6 * (g 254 2977))))) + 2)).toNat) 0) 254 ((w32 ((w32 (2991 + (w32 (6 * (g 254 2977))))) + 3)).toNat) ((-1))) 254 2977 (w32 (((cup (cup g16 254 ((w32 ((w32 (2991 + (w32 (6 * (g 254 2977))))) + 2)).toNat) 0) 254 ((w32 ((w32 (2991 + (w32 (6 * (g 254 2977))))) + 3)).toNat) ((-1))) 254 2977) + 1)), some (0, 1)))) ∨ (r17 ≠ 0 ∧ (o = (cup (cup (cup g16 254 ((w32 ((w32 (2991 + (w32 (6 * (g 254 2977))))) + 2)).toNat) 1) 254 ((w32 ((w32 (2991 + (w32 (6 * (g 254 2977))))) + 3)).toNat) ((-1))) 254 2977 (w32 (((cup (cup g16 254 ((w32 ((w32 (2991 + (w32 (6 * (g 254 2977))))) + 2)).toNat) 1) 254 ((w32 ((w32 (2991 + (w32 (6 * (g 254 2977))))) + 3)).toNat) ((-1))) 254 2977) + 1)), some (0, 1)))))))))) ∨ (r8 = 0 ∧ (o = (g7, some (0, 0))))))))))) := by
  rw [zov h0] at h
  have h := zm zy_187 h 13 (q := (21, dset (dset lf 0 (4, 253)) 1 (0, w32 (2991 + (w32 (6 * (g 254 2977))))), [(0, 5), (0, 6), (0, 1), (4, 253)], g)) rfl
  dsimp only at h
  obtain ⟨g1, r2, hk, h⟩ := zcallI zy_187 h rfl rfl zy_188 zk_188
  dsimp only at hk h
  refine ⟨g1, r2, hk, ?_⟩
  have h := zm zy_187 h 1 (q := (cond (crel .eq r2 0) 50 27, dset (dset lf 0 (4, 253)) 1 (0, w32 (2991 + (w32 (6 * (g 254 2977))))), [], g1)) rfl
  dsimp only at h
  rcases zif_eq h with ⟨hc3, h⟩ | ⟨hc3, h⟩
  · refine Or.inl ⟨hc3, ?_⟩
    have h := zm zy_187 h 1 (q := (51, dset (dset lf 0 (4, 253)) 1 (0, w32 (2991 + (w32 (6 * (g 254 2977))))), [(0, 0)], g1)) rfl
    dsimp only at h
    exact zret zy_187 h rfl rfl
  · refine Or.inr ⟨hc3, ?_⟩
    have h := zm zy_187 h 3 (q := (32, dset (dset lf 0 (4, 253)) 1 (0, w32 (2991 + (w32 (6 * (g 254 2977))))), [(0, 9), (6, 3), (4, 253)], g1)) rfl
    dsimp only at h
    obtain ⟨g4, r5, hk, h⟩ := zcallI zy_187 h rfl rfl zy_184 zk_184
    dsimp only at hk h
    refine ⟨g4, r5, hk, ?_⟩
    have h := zm zy_187 h 1 (q := (cond (crel .eq r5 0) 50 38, dset (dset lf 0 (4, 253)) 1 (0, w32 (2991 + (w32 (6 * (g 254 2977))))), [], g4)) rfl
    dsimp only at h
    rcases zif_eq h with ⟨hc6, h⟩ | ⟨hc6, h⟩
    · refine Or.inl ⟨hc6, ?_⟩
      have h := zm zy_187 h 1 (q := (51, dset (dset lf 0 (4, 253)) 1 (0, w32 (2991 + (w32 (6 * (g 254 2977))))), [(0, 0)], g4)) rfl
      dsimp only at h
      exact zret zy_187 h rfl rfl
    · refine Or.inr ⟨hc6, ?_⟩
      have h := zm zy_187 h 4 (q := (44, dset (dset lf 0 (4, 253)) 1 (0, w32 (2991 + (w32 (6 * (g 254 2977))))), [(0, 999), (0, 0), (0, w32 (2991 + (w32 (6 * (g 254 2977))))), (4, 253)], g4)) rfl
      dsimp only at h
      obtain ⟨g7, r8, hk, h⟩ := zcallI zy_187 h rfl rfl zy_175 zk_175
      dsimp only at hk h
      refine ⟨g7, r8, hk, ?_⟩
      have h := zm zy_187 h 1 (q := (cond (crel .ne r8 0) 52 50, dset (dset lf 0 (4, 253)) 1 (0, w32 (2991 + (w32 (6 * (g 254 2977))))), [], g7)) rfl
      dsimp only at h
      rcases zif_ne h with ⟨hc9, h⟩ | ⟨hc9, h⟩
      · refine Or.inl ⟨hc9, ?_⟩
        have h := zm zy_187 h 7 (q := (62, dset (dset lf 0 (4, 253)) 1 (0, w32 (2991 + (w32 (6 * (g 254 2977))))), [(0, 10), (4, 253), (0, w32 ((w32 (2991 + (w32 (6 * (g 254 2977))))) + 1)), (4, 254)], g7)) rfl
        dsimp only at h
        obtain ⟨g10, r11, hk, h⟩ := zcallI zy_187 h rfl rfl zy_189 zk_189
        dsimp only at hk h
        refine ⟨g10, r11, hk, ?_⟩
        have h := zm zy_187 h 1 (q := (cond (crel .eq r11 0) 72 68, dset (dset lf 0 (4, 253)) 1 (0, w32 (2991 + (w32 (6 * (g 254 2977))))), [(0, w32 ((w32 (2991 + (w32 (6 * (g 254 2977))))) + 1)), (4, 254)], g10)) rfl
        dsimp only at h
        rcases zif_eq h with ⟨hc12, h⟩ | ⟨hc12, h⟩
        · refine Or.inl ⟨hc12, ?_⟩
          have h := zm zy_187 h 9 (q := (84, dset (dset lf 0 (4, 253)) 1 (0, w32 (2991 + (w32 (6 * (g 254 2977))))), [(0, 11), (4, 253), (0, w32 ((w32 (2991 + (w32 (6 * (g 254 2977))))) + 2)), (4, 254)], cup g10 254 ((w32 ((w32 (2991 + (w32 (6 * (g 254 2977))))) + 1)).toNat) 0)) rfl
          dsimp only at h
          obtain ⟨g13, r14, hk, h⟩ := zcallI zy_187 h rfl rfl zy_189 zk_189
          dsimp only at hk h
          refine ⟨g13, r14, hk, ?_⟩
          have h := zm zy_187 h 1 (q := (cond (crel .eq r14 0) 94 90, dset (dset lf 0 (4, 253)) 1 (0, w32 (2991 + (w32 (6 * (g 254 2977))))), [(0, w32 ((w32 (2991 + (w32 (6 * (g 254 2977))))) + 2)), (4, 254)], g13)) rfl
          dsimp only at h
          rcases zif_eq h with ⟨hc15, h⟩ | ⟨hc15, h⟩
          · refine Or.inl ⟨hc15, ?_⟩
            have h := zm zy_187 h 18 (q := (118, dset (dset lf 0 (4, 253)) 1 (0, w32 (2991 + (w32 (6 * (g 254 2977))))), [(0, 1)], cup (cup (cup g13 254 ((w32 ((w32 (2991 + (w32 (6 * (g 254 2977))))) + 2)).toNat) 0) 254 ((w32 ((w32 (2991 + (w32 (6 * (g 254 2977))))) + 3)).toNat) ((-1))) 254 2977 (w32 (((cup (cup g13 254 ((w32 ((w32 (2991 + (w32 (6 * (g 254 2977))))) + 2)).toNat) 0) 254 ((w32 ((w32 (2991 + (w32 (6 * (g 254 2977))))) + 3)).toNat) ((-1))) 254 2977) + 1)))) rfl
            dsimp only at h
            exact zret zy_187 h rfl rfl
          · refine Or.inr ⟨hc15, ?_⟩
            have h := zm zy_187 h 19 (q := (118, dset (dset lf 0 (4, 253)) 1 (0, w32 (2991 + (w32 (6 * (g 254 2977))))), [(0, 1)], cup (cup (cup g13 254 ((w32 ((w32 (2991 + (w32 (6 * (g 254 2977))))) + 2)).toNat) 1) 254 ((w32 ((w32 (2991 + (w32 (6 * (g 254 2977))))) + 3)).toNat) ((-1))) 254 2977 (w32 (((cup (cup g13 254 ((w32 ((w32 (2991 + (w32 (6 * (g 254 2977))))) + 2)).toNat) 1) 254 ((w32 ((w32 (2991 + (w32 (6 * (g 254 2977))))) + 3)).toNat) ((-1))) 254 2977) + 1)))) rfl
            dsimp only at h
            exact zret zy_187 h rfl rfl
        · refine Or.inr ⟨hc12, ?_⟩
          have h := zm zy_187 h 10 (q := (84, dset (dset lf 0 (4, 253)) 1 (0, w32 (2991 + (w32 (6 * (g 254 2977))))), [(0, 11), (4, 253), (0, w32 ((w32 (2991 + (w32 (6 * (g 254 2977))))) + 2)), (4, 254)], cup g10 254 ((w32 ((w32 (2991 + (w32 (6 * (g 254 2977))))) + 1)).toNat) 1)) rfl
          dsimp only at h
          obtain ⟨g16, r17, hk, h⟩ := zcallI zy_187 h rfl rfl zy_189 zk_189
          dsimp only at hk h
          refine ⟨g16, r17, hk, ?_⟩
          have h := zm zy_187 h 1 (q := (cond (crel .eq r17 0) 94 90, dset (dset lf 0 (4, 253)) 1 (0, w32 (2991 + (w32 (6 * (g 254 2977))))), [(0, w32 ((w32 (2991 + (w32 (6 * (g 254 2977))))) + 2)), (4, 254)], g16)) rfl
          dsimp only at h
          rcases zif_eq h with ⟨hc18, h⟩ | ⟨hc18, h⟩
          · refine Or.inl ⟨hc18, ?_⟩
            have h := zm zy_187 h 18 (q := (118, dset (dset lf 0 (4, 253)) 1 (0, w32 (2991 + (w32 (6 * (g 254 2977))))), [(0, 1)], cup (cup (cup g16 254 ((w32 ((w32 (2991 + (w32 (6 * (g 254 2977))))) + 2)).toNat) 0) 254 ((w32 ((w32 (2991 + (w32 (6 * (g 254 2977))))) + 3)).toNat) ((-1))) 254 2977 (w32 (((cup (cup g16 254 ((w32 ((w32 (2991 + (w32 (6 * (g 254 2977))))) + 2)).toNat) 0) 254 ((w32 ((w32 (2991 + (w32 (6 * (g 254 2977))))) + 3)).toNat) ((-1))) 254 2977) + 1)))) rfl
            dsimp only at h
            exact zret zy_187 h rfl rfl
          · refine Or.inr ⟨hc18, ?_⟩
            have h := zm zy_187 h 19 (q := (118, dset (dset lf 0 (4, 253)) 1 (0, w32 (2991 + (w32 (6 * (g 254 2977))))), [(0, 1)], cup (cup (cup g16 254 ((w32 ((w32 (2991 + (w32 (6 * (g 254 2977))))) + 2)).toNat) 1) 254 ((w32 ((w32 (2991 + (w32 (6 * (g 254 2977))))) + 3)).toNat) ((-1))) 254 2977 (w32 (((cup (cup g16 254 ((w32 ((w32 (2991 + (w32 (6 * (g 254 2977))))) + 2)).toNat) 1) 254 ((w32 ((w32 (2991 + (w32 (6 * (g 254 2977))))) + 3)).toNat) ((-1))) 254 2977) + 1)))) rfl
            dsimp only at h
            exact zret zy_187 h rfl rfl
      · refine Or.inr ⟨hc9, ?_⟩
        have h := zm zy_187 h 1 (q := (51, dset (dset lf 0 (4, 253)) 1 (0, w32 (2991 + (w32 (6 * (g 254 2977))))), [(0, 0)], g7)) rfl
        dsimp only at h
        exact zret zy_187 h rfl rfl
theorem m_oneOf {sv : Nat → Int32} {L n : Nat} {lf : dlf} {g : cg} {o : cg × Option cv} {a b c : Int} (h : zr sv L n 186 0 lf [] g o) (h0 : lf 0 = (4, 253)) (h1 : lf 1 = (0, a)) (h2 : lf 2 = (0, b)) (h3 : lf 3 = (0, c)) : ∃ g1 r2, zr sv L n 181 0 (darg 0 [(4, 253), (6, 3)]) [] g (g1, some (0, r2)) ∧ ((r2 = 0 ∧ (∃ lf'4, lf'4 0 = (4, 253) ∧ lf'4 2 = (0, b) ∧ zr sv L n 186 67 lf'4 [] g1 o)) ∨ (r2 ≠ 0 ∧ (∃ g5 r6, zr sv L n 182 0 (darg 0 [(4, 253), (0, 53), (0, g1 254 2977)]) [] g1 (g5, some (0, r6)) ∧ ((r6 = (-1) ∧ (∃ lf'8, lf'8 0 = (4, 253) ∧ lf'8 2 = (0, b) ∧ zr sv L n 186 67 lf'8 [] g5 o)) ∨ (r6 ≠ (-1) ∧ ((r6 = a ∧ (∃ g10 r11, zr sv L n 173 0 (darg 0 [(4, 253), (0, 5)]) [] g5 (g10, some (0, r11)) ∧ (o = (g10, some (0, r11))))) ∨ (r6 ≠ a ∧ ((c = 0 ∧ (∃ lf'13, lf'13 0 = (4, 253) ∧ lf'13 2 = (0, b) ∧ zr sv L n 186 67 lf'13 [] g5 o)) ∨ (c ≠ 0 ∧ (0 ≤ w32 ((w32 (2991 + (w32 (6 * r6)))) + 3) → w32 ((w32 (2991 + (w32 (6 * r6)))) + 3) < 5208 → ((g5 254 ((w32 ((w32 (2991 + (w32 (6 * r6)))) + 3)).toNat) = (-1) ∧ (∃ lf'17, lf'17 0 = (4, 253) ∧ lf'17 2 = (0, b) ∧ zr sv L n 186 67 lf'17 [] g5 o)) ∨ (g5 254 ((w32 ((w32 (2991 + (w32 (6 * r6)))) + 3)).toNat) ≠ (-1) ∧ (∃ g18 r19, zr sv L n 173 0 (darg 0 [(4, 253), (0, 5)]) [] g5 (g18, some (0, r19)) ∧ (o = (g18, some (0, r19)))))))))))))))) := by
  rw [zov h0, zov h1, zov h2, zov h3] at h
  have h := zm zy_186 h 2 (q := (3, dset (dset (dset (dset lf 3 (0, c)) 2 (0, b)) 1 (0, a)) 0 (4, 253), [(6, 3), (4, 253)], g)) rfl
  dsimp only at h
  obtain ⟨g1, r2, hk, h⟩ := zcallI zy_186 h rfl rfl zy_181 zk_181
  dsimp only at hk h
  refine ⟨g1, r2, hk, ?_⟩
  have h := zm zy_186 h 1 (q := (cond (crel .eq r2 0) 67 9, dset (dset (dset (dset lf 3 (0, c)) 2 (0, b)) 1 (0, a)) 0 (4, 253), [], g1)) rfl
  dsimp only at h
  rcases zif_eq h with ⟨hc3, h⟩ | ⟨hc3, h⟩
  · refine Or.inl ⟨hc3, ?_⟩
    exact ⟨_, rfl, rfl, h⟩
  · refine Or.inr ⟨hc3, ?_⟩
    have h := zm zy_186 h 6 (q := (20, dset (dset (dset (dset lf 3 (0, c)) 2 (0, b)) 1 (0, a)) 0 (4, 253), [(0, g1 254 2977), (0, 53), (4, 253)], g1)) rfl
    dsimp only at h
    obtain ⟨g5, r6, hk, h⟩ := zcallI zy_186 h rfl rfl zy_182 zk_182
    dsimp only at hk h
    refine ⟨g5, r6, hk, ?_⟩
    have h := zm zy_186 h 4 (q := (cond (crel .eq r6 ((-1))) 67 31, dset (dset (dset (dset (dset lf 3 (0, c)) 2 (0, b)) 1 (0, a)) 0 (4, 253)) 4 (0, r6), [], g5)) rfl
    dsimp only at h
    rcases zif_eq h with ⟨hc7, h⟩ | ⟨hc7, h⟩
    · refine Or.inl ⟨hc7, ?_⟩
      exact ⟨_, rfl, rfl, h⟩
    · refine Or.inr ⟨hc7, ?_⟩
      have h := zm zy_186 h 3 (q := (cond (crel .eq r6 a) 61 37, dset (dset (dset (dset (dset lf 3 (0, c)) 2 (0, b)) 1 (0, a)) 0 (4, 253)) 4 (0, r6), [], g5)) rfl
      dsimp only at h
      rcases zif_eq h with ⟨hc9, h⟩ | ⟨hc9, h⟩
      · refine Or.inl ⟨hc9, ?_⟩
        have h := zm zy_186 h 2 (q := (63, dset (dset (dset (dset (dset lf 3 (0, c)) 2 (0, b)) 1 (0, a)) 0 (4, 253)) 4 (0, r6), [(0, 5), (4, 253)], g5)) rfl
        dsimp only at h
        obtain ⟨g10, r11, hk, h⟩ := zcallI zy_186 h rfl rfl zy_173 zk_173
        dsimp only at hk h
        refine ⟨g10, r11, hk, ?_⟩
        exact zret zy_186 h rfl rfl
      · refine Or.inr ⟨hc9, ?_⟩
        have h := zm zy_186 h 2 (q := (cond (crel .eq c 0) 67 41, dset (dset (dset (dset (dset lf 3 (0, c)) 2 (0, b)) 1 (0, a)) 0 (4, 253)) 4 (0, r6), [], g5)) rfl
        dsimp only at h
        rcases zif_eq h with ⟨hc12, h⟩ | ⟨hc12, h⟩
        · refine Or.inl ⟨hc12, ?_⟩
          exact ⟨_, rfl, rfl, h⟩
        · refine Or.inr ⟨hc12, ?_⟩
          intro ha14 hb15
          have h := zm zy_186 h 9 (q := (56, dset (dset (dset (dset (dset lf 3 (0, c)) 2 (0, b)) 1 (0, a)) 0 (4, 253)) 4 (0, r6), [(0, w32 ((w32 (2991 + (w32 (6 * r6)))) + 3)), (4, 254)], g5)) rfl
          dsimp only at h
          have h := zald zy_186 h rfl rfl (dvb_254 ha14 hb15)
          have h : zr sv L n 186 57 (dset (dset (dset (dset (dset lf 3 (0, c)) 2 (0, b)) 1 (0, a)) 0 (4, 253)) 4 (0, r6)) [(0, g5 254 ((w32 ((w32 (2991 + (w32 (6 * r6)))) + 3)).toNat))] (g5) o := by first | exact h | (rw [cup_at] at h; exact h)
          have h := zm zy_186 h 2 (q := (cond (crel .eq (g5 254 ((w32 ((w32 (2991 + (w32 (6 * r6)))) + 3)).toNat)) ((-1))) 67 61, dset (dset (dset (dset (dset lf 3 (0, c)) 2 (0, b)) 1 (0, a)) 0 (4, 253)) 4 (0, r6), [], g5)) rfl
          dsimp only at h
          rcases zif_eq h with ⟨hc16, h⟩ | ⟨hc16, h⟩
          · refine Or.inl ⟨hc16, ?_⟩
            exact ⟨_, rfl, rfl, h⟩
          · refine Or.inr ⟨hc16, ?_⟩
            have h := zm zy_186 h 2 (q := (63, dset (dset (dset (dset (dset lf 3 (0, c)) 2 (0, b)) 1 (0, a)) 0 (4, 253)) 4 (0, r6), [(0, 5), (4, 253)], g5)) rfl
            dsimp only at h
            obtain ⟨g18, r19, hk, h⟩ := zcallI zy_186 h rfl rfl zy_173 zk_173
            dsimp only at hk h
            refine ⟨g18, r19, hk, ?_⟩
            exact zret zy_186 h rfl rfl
theorem m_oneOf67 {sv : Nat → Int32} {L n : Nat} {lf : dlf} {g : cg} {o : cg × Option cv} {b : Int} (h : zr sv L n 186 67 lf [] g o) (h0 : lf 0 = (4, 253)) (h2 : lf 2 = (0, b)) : ∃ g1 r2, zr sv L n 179 0 (darg 0 [(4, 253), (0, b)]) [] g (g1, some (0, r2)) ∧ (o = (g1, some (0, r2))) := by
  rw [zov h0, zov h2] at h
  have h := zm zy_186 h 2 (q := (69, dset (dset lf 2 (0, b)) 0 (4, 253), [(0, b), (4, 253)], g)) rfl
  dsimp only at h
  obtain ⟨g1, r2, hk, h⟩ := zcallI zy_186 h rfl rfl zy_179 zk_179
  dsimp only at hk h
  refine ⟨g1, r2, hk, ?_⟩
  exact zret zy_186 h rfl rfl
theorem m_twins {sv : Nat → Int32} {L n : Nat} {lf : dlf} {g : cg} {o : cg × Option cv} (h : zr sv L n 185 0 lf [] g o) (h0 : lf 0 = (4, 253)) (h1 : lf 1 = (0, 1)) : ∃ g1, zr sv L n 166 0 (darg 0 [(4, 253)]) [] g (g1, none) ∧ (∃ g2 r3, zr sv L n 186 0 (darg 0 [(4, 253), (0, (-1)), (0, 3716), (0, 1)]) [] g1 (g2, some (0, r3)) ∧ ((r3 = 0 ∧ (o = (g2, some (0, 0)))) ∨ (r3 ≠ 0 ∧ (∃ g5 r6, zr sv L n 186 0 (darg 0 [(4, 253), (0, g2 254 3716), (0, 3717), (0, 1)]) [] g2 (g5, some (0, r6)) ∧ ((r6 ≠ 0 ∧ (o = (cup (cup g5 254 ((w32 ((w32 (2991 + (w32 (6 * (g5 254 3716))))) + 3)).toNat) (g5 254 3717)) 254 ((w32 ((w32 (2991 + (w32 (6 * (g5 254 3717))))) + 3)).toNat) ((cup g5 254 ((w32 ((w32 (2991 + (w32 (6 * (g5 254 3716))))) + 3)).toNat) (g5 254 3717)) 254 3716), some (0, 1)))) ∨ (r6 = 0 ∧ (o = (g5, some (0, 0))))))))) := by
  rw [zov h0, zov h1] at h
  have h := zm zy_185 h 3 (q := (5, dset (dset (dset lf 1 (0, 1)) 0 (4, 253)) 2 (0, 3716), [(4, 253)], g)) rfl
  dsimp only at h
  obtain ⟨g1, hk, h⟩ := zcallV zy_185 h rfl rfl zy_166 zk_166
  dsimp only at hk h
  refine ⟨g1, hk, ?_⟩
  have h := zm zy_185 h 4 (q := (12, dset (dset (dset lf 1 (0, 1)) 0 (4, 253)) 2 (0, 3716), [(0, 1), (0, 3716), (0, (-1)), (4, 253)], g1)) rfl
  dsimp only at h
  obtain ⟨g2, r3, hk, h⟩ := zcallI zy_185 h rfl rfl zy_186 zk_186
  dsimp only at hk h
  refine ⟨g2, r3, hk, ?_⟩
  have h := zm zy_185 h 1 (q := (cond (crel .eq r3 0) 35 18, dset (dset (dset lf 1 (0, 1)) 0 (4, 253)) 2 (0, 3716), [], g2)) rfl
  dsimp only at h
  rcases zif_eq h with ⟨hc4, h⟩ | ⟨hc4, h⟩
  · refine Or.inl ⟨hc4, ?_⟩
    have h := zm zy_185 h 1 (q := (36, dset (dset (dset lf 1 (0, 1)) 0 (4, 253)) 2 (0, 3716), [(0, 0)], g2)) rfl
    dsimp only at h
    exact zret zy_185 h rfl rfl
  · refine Or.inr ⟨hc4, ?_⟩
    have h := zm zy_185 h 9 (q := (29, dset (dset (dset lf 1 (0, 1)) 0 (4, 253)) 2 (0, 3716), [(0, 1), (0, 3717), (0, g2 254 3716), (4, 253)], g2)) rfl
    dsimp only at h
    obtain ⟨g5, r6, hk, h⟩ := zcallI zy_185 h rfl rfl zy_186 zk_186
    dsimp only at hk h
    refine ⟨g5, r6, hk, ?_⟩
    have h := zm zy_185 h 1 (q := (cond (crel .ne r6 0) 37 35, dset (dset (dset lf 1 (0, 1)) 0 (4, 253)) 2 (0, 3716), [], g5)) rfl
    dsimp only at h
    rcases zif_ne h with ⟨hc7, h⟩ | ⟨hc7, h⟩
    · refine Or.inl ⟨hc7, ?_⟩
      have h := zm zy_185 h 46 (q := (148, dset (dset (dset (dset (dset lf 1 (0, 1)) 0 (4, 253)) 2 (0, 3716)) 3 (0, w32 (2991 + (w32 (6 * (g5 254 3716)))))) 4 (0, w32 (2991 + (w32 (6 * (g5 254 3717))))), [(0, 1)], cup (cup g5 254 ((w32 ((w32 (2991 + (w32 (6 * (g5 254 3716))))) + 3)).toNat) (g5 254 3717)) 254 ((w32 ((w32 (2991 + (w32 (6 * (g5 254 3717))))) + 3)).toNat) ((cup g5 254 ((w32 ((w32 (2991 + (w32 (6 * (g5 254 3716))))) + 3)).toNat) (g5 254 3717)) 254 3716))) rfl
      dsimp only at h
      exact zret zy_185 h rfl rfl
    · refine Or.inr ⟨hc7, ?_⟩
      have h := zm zy_185 h 1 (q := (36, dset (dset (dset lf 1 (0, 1)) 0 (4, 253)) 2 (0, 3716), [(0, 0)], g5)) rfl
      dsimp only at h
      exact zret zy_185 h rfl rfl
theorem m_knows {sv : Nat → Int32} {L n : Nat} {lf : dlf} {g : cg} {o : cg × Option cv} (h : zr sv L n 185 0 lf [] g o) (h0 : lf 0 = (4, 253)) (h1 : lf 1 = (0, 0)) : ∃ g1, zr sv L n 166 0 (darg 0 [(4, 253)]) [] g (g1, none) ∧ (∃ g2 r3, zr sv L n 186 0 (darg 0 [(4, 253), (0, (-1)), (0, 3716), (0, 0)]) [] g1 (g2, some (0, r3)) ∧ ((r3 = 0 ∧ (o = (g2, some (0, 0)))) ∨ (r3 ≠ 0 ∧ (∃ g5 r6, zr sv L n 186 0 (darg 0 [(4, 253), (0, g2 254 3716), (0, 3717), (0, 0)]) [] g2 (g5, some (0, r6)) ∧ ((r6 ≠ 0 ∧ (0 ≤ w32 ((w32 (2991 + (w32 (6 * (g5 254 3716))))) + 4) → w32 ((w32 (2991 + (w32 (6 * (g5 254 3716))))) + 4) < 5208 → (0 ≤ w32 ((w32 (2991 + (w32 (6 * (g5 254 3717))))) + 4) → w32 ((w32 (2991 + (w32 (6 * (g5 254 3717))))) + 4) < 5208 → (o = (cup (cup g5 254 ((w32 ((w32 (2991 + (w32 (6 * (g5 254 3716))))) + 4)).toNat) ((i32 (g5 254 ((w32 ((w32 (2991 + (w32 (6 * (g5 254 3716))))) + 4)).toNat)) ||| i32 ((i32 1 <<< (i32 (g5 254 3717) &&& 31)).toInt)).toInt)) 254 ((w32 ((w32 (2991 + (w32 (6 * (g5 254 3717))))) + 4)).toNat) ((i32 ((cup g5 254 ((w32 ((w32 (2991 + (w32 (6 * (g5 254 3716))))) + 4)).toNat) ((i32 (g5 254 ((w32 ((w32 (2991 + (w32 (6 * (g5 254 3716))))) + 4)).toNat)) ||| i32 ((i32 1 <<< (i32 (g5 254 3717) &&& 31)).toInt)).toInt)) 254 ((w32 ((w32 (2991 + (w32 (6 * (g5 254 3717))))) + 4)).toNat)) ||| i32 ((i32 1 <<< (i32 ((cup g5 254 ((w32 ((w32 (2991 + (w32 (6 * (g5 254 3716))))) + 4)).toNat) ((i32 (g5 254 ((w32 ((w32 (2991 + (w32 (6 * (g5 254 3716))))) + 4)).toNat)) ||| i32 ((i32 1 <<< (i32 (g5 254 3717) &&& 31)).toInt)).toInt)) 254 3716) &&& 31)).toInt)).toInt), some (0, 1)))))) ∨ (r6 = 0 ∧ (o = (g5, some (0, 0))))))))) := by
  rw [zov h0, zov h1] at h
  have h := zm zy_185 h 3 (q := (5, dset (dset (dset lf 1 (0, 0)) 0 (4, 253)) 2 (0, 3716), [(4, 253)], g)) rfl
  dsimp only at h
  obtain ⟨g1, hk, h⟩ := zcallV zy_185 h rfl rfl zy_166 zk_166
  dsimp only at hk h
  refine ⟨g1, hk, ?_⟩
  have h := zm zy_185 h 4 (q := (12, dset (dset (dset lf 1 (0, 0)) 0 (4, 253)) 2 (0, 3716), [(0, 0), (0, 3716), (0, (-1)), (4, 253)], g1)) rfl
  dsimp only at h
  obtain ⟨g2, r3, hk, h⟩ := zcallI zy_185 h rfl rfl zy_186 zk_186
  dsimp only at hk h
  refine ⟨g2, r3, hk, ?_⟩
  have h := zm zy_185 h 1 (q := (cond (crel .eq r3 0) 35 18, dset (dset (dset lf 1 (0, 0)) 0 (4, 253)) 2 (0, 3716), [], g2)) rfl
  dsimp only at h
  rcases zif_eq h with ⟨hc4, h⟩ | ⟨hc4, h⟩
  · refine Or.inl ⟨hc4, ?_⟩
    have h := zm zy_185 h 1 (q := (36, dset (dset (dset lf 1 (0, 0)) 0 (4, 253)) 2 (0, 3716), [(0, 0)], g2)) rfl
    dsimp only at h
    exact zret zy_185 h rfl rfl
  · refine Or.inr ⟨hc4, ?_⟩
    have h := zm zy_185 h 9 (q := (29, dset (dset (dset lf 1 (0, 0)) 0 (4, 253)) 2 (0, 3716), [(0, 0), (0, 3717), (0, g2 254 3716), (4, 253)], g2)) rfl
    dsimp only at h
    obtain ⟨g5, r6, hk, h⟩ := zcallI zy_185 h rfl rfl zy_186 zk_186
    dsimp only at hk h
    refine ⟨g5, r6, hk, ?_⟩
    have h := zm zy_185 h 1 (q := (cond (crel .ne r6 0) 37 35, dset (dset (dset lf 1 (0, 0)) 0 (4, 253)) 2 (0, 3716), [], g5)) rfl
    dsimp only at h
    rcases zif_ne h with ⟨hc7, h⟩ | ⟨hc7, h⟩
    · refine Or.inl ⟨hc7, ?_⟩
      intro ha8 hb9
      have h := zm zy_185 h 28 (q := (114, dset (dset (dset (dset (dset lf 1 (0, 0)) 0 (4, 253)) 2 (0, 3716)) 3 (0, w32 (2991 + (w32 (6 * (g5 254 3716)))))) 4 (0, w32 (2991 + (w32 (6 * (g5 254 3717))))), [(0, w32 ((w32 (2991 + (w32 (6 * (g5 254 3716))))) + 4)), (4, 254), (0, w32 ((w32 (2991 + (w32 (6 * (g5 254 3716))))) + 4)), (4, 254)], g5)) rfl
      dsimp only at h
      have h := zald zy_185 h rfl rfl (dvb_254 ha8 hb9)
      have h : zr sv L n 185 115 (dset (dset (dset (dset (dset lf 1 (0, 0)) 0 (4, 253)) 2 (0, 3716)) 3 (0, w32 (2991 + (w32 (6 * (g5 254 3716)))))) 4 (0, w32 (2991 + (w32 (6 * (g5 254 3717)))))) [(0, g5 254 ((w32 ((w32 (2991 + (w32 (6 * (g5 254 3716))))) + 4)).toNat)), (0, w32 ((w32 (2991 + (w32 (6 * (g5 254 3716))))) + 4)), (4, 254)] (g5) o := by first | exact h | (rw [cup_at] at h; exact h)
      intro ha10 hb11
      have h := zm zy_185 h 16 (q := (136, dset (dset (dset (dset (dset lf 1 (0, 0)) 0 (4, 253)) 2 (0, 3716)) 3 (0, w32 (2991 + (w32 (6 * (g5 254 3716)))))) 4 (0, w32 (2991 + (w32 (6 * (g5 254 3717))))), [(0, w32 ((w32 (2991 + (w32 (6 * (g5 254 3717))))) + 4)), (4, 254), (0, w32 ((w32 (2991 + (w32 (6 * (g5 254 3717))))) + 4)), (4, 254)], cup g5 254 ((w32 ((w32 (2991 + (w32 (6 * (g5 254 3716))))) + 4)).toNat) ((i32 (g5 254 ((w32 ((w32 (2991 + (w32 (6 * (g5 254 3716))))) + 4)).toNat)) ||| i32 ((i32 1 <<< (i32 (g5 254 3717) &&& 31)).toInt)).toInt))) rfl
      dsimp only at h
      have h := zald zy_185 h rfl rfl (dvb_254 ha10 hb11)
      have h : zr sv L n 185 137 (dset (dset (dset (dset (dset lf 1 (0, 0)) 0 (4, 253)) 2 (0, 3716)) 3 (0, w32 (2991 + (w32 (6 * (g5 254 3716)))))) 4 (0, w32 (2991 + (w32 (6 * (g5 254 3717)))))) [(0, (cup g5 254 ((w32 ((w32 (2991 + (w32 (6 * (g5 254 3716))))) + 4)).toNat) ((i32 (g5 254 ((w32 ((w32 (2991 + (w32 (6 * (g5 254 3716))))) + 4)).toNat)) ||| i32 ((i32 1 <<< (i32 (g5 254 3717) &&& 31)).toInt)).toInt)) 254 ((w32 ((w32 (2991 + (w32 (6 * (g5 254 3717))))) + 4)).toNat)), (0, w32 ((w32 (2991 + (w32 (6 * (g5 254 3717))))) + 4)), (4, 254)] (cup g5 254 ((w32 ((w32 (2991 + (w32 (6 * (g5 254 3716))))) + 4)).toNat) ((i32 (g5 254 ((w32 ((w32 (2991 + (w32 (6 * (g5 254 3716))))) + 4)).toNat)) ||| i32 ((i32 1 <<< (i32 (g5 254 3717) &&& 31)).toInt)).toInt)) o := by first | exact h | (rw [cup_at] at h; exact h)
      have h := zm zy_185 h 9 (q := (148, dset (dset (dset (dset (dset lf 1 (0, 0)) 0 (4, 253)) 2 (0, 3716)) 3 (0, w32 (2991 + (w32 (6 * (g5 254 3716)))))) 4 (0, w32 (2991 + (w32 (6 * (g5 254 3717))))), [(0, 1)], cup (cup g5 254 ((w32 ((w32 (2991 + (w32 (6 * (g5 254 3716))))) + 4)).toNat) ((i32 (g5 254 ((w32 ((w32 (2991 + (w32 (6 * (g5 254 3716))))) + 4)).toNat)) ||| i32 ((i32 1 <<< (i32 (g5 254 3717) &&& 31)).toInt)).toInt)) 254 ((w32 ((w32 (2991 + (w32 (6 * (g5 254 3717))))) + 4)).toNat) ((i32 ((cup g5 254 ((w32 ((w32 (2991 + (w32 (6 * (g5 254 3716))))) + 4)).toNat) ((i32 (g5 254 ((w32 ((w32 (2991 + (w32 (6 * (g5 254 3716))))) + 4)).toNat)) ||| i32 ((i32 1 <<< (i32 (g5 254 3717) &&& 31)).toInt)).toInt)) 254 ((w32 ((w32 (2991 + (w32 (6 * (g5 254 3717))))) + 4)).toNat)) ||| i32 ((i32 1 <<< (i32 ((cup g5 254 ((w32 ((w32 (2991 + (w32 (6 * (g5 254 3716))))) + 4)).toNat) ((i32 (g5 254 ((w32 ((w32 (2991 + (w32 (6 * (g5 254 3716))))) + 4)).toNat)) ||| i32 ((i32 1 <<< (i32 (g5 254 3717) &&& 31)).toInt)).toInt)) 254 3716) &&& 31)).toInt)).toInt))) rfl
      dsimp only at h
      exact zret zy_185 h rfl rfl
    · refine Or.inr ⟨hc7, ?_⟩
      have h := zm zy_185 h 1 (q := (36, dset (dset (dset lf 1 (0, 0)) 0 (4, 253)) 2 (0, 3716), [(0, 0)], g5)) rfl
      dsimp only at h
      exact zret zy_185 h rfl rfl
theorem m_aTruth {sv : Nat → Int32} {L n : Nat} {lf : dlf} {g : cg} {o : cg × Option cv} (h : zr sv L n 178 0 lf [] g o) (h0 : lf 0 = (4, 253)) : ∃ g1, zr sv L n 166 0 (darg 0 [(4, 253)]) [] g (g1, none) ∧ (∃ g2 r3, zr sv L n 179 0 (darg 0 [(4, 253), (0, 3716)]) [] g1 (g2, some (0, r3)) ∧ ((r3 = 0 ∧ (o = (g2, some (0, 0)))) ∨ (r3 ≠ 0 ∧ (∃ g5 r6, zr sv L n 184 0 (darg 0 [(4, 253), (6, 3), (0, 12)]) [] g2 (g5, some (0, r6)) ∧ ((r6 = 0 ∧ (o = (g5, some (0, 0)))) ∨ (r6 ≠ 0 ∧ (∃ g8 r9, zr sv L n 180 0 (darg 0 [(4, 253), (0, 48), (0, g5 254 2976), (0, 3717)]) [] g5 (g8, some (0, r9)) ∧ ((r9 = 0 ∧ (o = (g8, some (0, 0)))) ∨ (r9 ≠ 0 ∧ (∃ g11 r12, zr sv L n 184 0 (darg 0 [(4, 253), (6, 3), (0, 13)]) [] g8 (g11, some (0, r12)) ∧ ((r12 = 0 ∧ (o = (g11, some (0, 0)))) ∨ (r12 ≠ 0 ∧ (∃ g14 r15, zr sv L n 175 0 (darg 0 [(4, 253), (0, 3718), (0, 0), (0, 7)]) [] g11 (g14, some (0, r15)) ∧ ((r15 ≠ 0 ∧ (o = (cup g14 254 ((w32 ((w32 (3027 + (w32 (8 * (g14 254 3716))))) + (g14 254 3718))).toNat) (g14 254 3717), some (0, 1)))) ∨ (r15 = 0 ∧ (o = (g14, some (0, 0)))))))))))))))))) := by
  rw [zov h0] at h
  have h := zm zy_178 h 3 (q := (5, dset (dset lf 0 (4, 253)) 1 (0, 3716), [(4, 253)], g)) rfl
  dsimp only at h
  obtain ⟨g1, hk, h⟩ := zcallV zy_178 h rfl rfl zy_166 zk_166
  dsimp only at hk h
  refine ⟨g1, hk, ?_⟩
  have h := zm zy_178 h 2 (q := (10, dset (dset lf 0 (4, 253)) 1 (0, 3716), [(0, 3716), (4, 253)], g1)) rfl
  dsimp only at h
  obtain ⟨g2, r3, hk, h⟩ := zcallI zy_178 h rfl rfl zy_179 zk_179
  dsimp only at hk h
  refine ⟨g2, r3, hk, ?_⟩
  have h := zm zy_178 h 1 (q := (cond (crel .eq r3 0) 71 16, dset (dset lf 0 (4, 253)) 1 (0, 3716), [], g2)) rfl
  dsimp only at h
  rcases zif_eq h with ⟨hc4, h⟩ | ⟨hc4, h⟩
  · refine Or.inl ⟨hc4, ?_⟩
    have h := zm zy_178 h 1 (q := (72, dset (dset lf 0 (4, 253)) 1 (0, 3716), [(0, 0)], g2)) rfl
    dsimp only at h
    exact zret zy_178 h rfl rfl
  · refine Or.inr ⟨hc4, ?_⟩
    have h := zm zy_178 h 3 (q := (21, dset (dset lf 0 (4, 253)) 1 (0, 3716), [(0, 12), (6, 3), (4, 253)], g2)) rfl
    dsimp only at h
    obtain ⟨g5, r6, hk, h⟩ := zcallI zy_178 h rfl rfl zy_184 zk_184
    dsimp only at hk h
    refine ⟨g5, r6, hk, ?_⟩
    have h := zm zy_178 h 1 (q := (cond (crel .eq r6 0) 71 27, dset (dset lf 0 (4, 253)) 1 (0, 3716), [], g5)) rfl
    dsimp only at h
    rcases zif_eq h with ⟨hc7, h⟩ | ⟨hc7, h⟩
    · refine Or.inl ⟨hc7, ?_⟩
      have h := zm zy_178 h 1 (q := (72, dset (dset lf 0 (4, 253)) 1 (0, 3716), [(0, 0)], g5)) rfl
      dsimp only at h
      exact zret zy_178 h rfl rfl
    · refine Or.inr ⟨hc7, ?_⟩
      have h := zm zy_178 h 9 (q := (41, dset (dset lf 0 (4, 253)) 1 (0, 3716), [(0, 3717), (0, g5 254 2976), (0, 48), (4, 253)], g5)) rfl
      dsimp only at h
      obtain ⟨g8, r9, hk, h⟩ := zcallI zy_178 h rfl rfl zy_180 zk_180
      dsimp only at hk h
      refine ⟨g8, r9, hk, ?_⟩
      have h := zm zy_178 h 1 (q := (cond (crel .eq r9 0) 71 47, dset (dset lf 0 (4, 253)) 1 (0, 3716), [], g8)) rfl
      dsimp only at h
      rcases zif_eq h with ⟨hc10, h⟩ | ⟨hc10, h⟩
      · refine Or.inl ⟨hc10, ?_⟩
        have h := zm zy_178 h 1 (q := (72, dset (dset lf 0 (4, 253)) 1 (0, 3716), [(0, 0)], g8)) rfl
        dsimp only at h
        exact zret zy_178 h rfl rfl
      · refine Or.inr ⟨hc10, ?_⟩
        have h := zm zy_178 h 3 (q := (52, dset (dset lf 0 (4, 253)) 1 (0, 3716), [(0, 13), (6, 3), (4, 253)], g8)) rfl
        dsimp only at h
        obtain ⟨g11, r12, hk, h⟩ := zcallI zy_178 h rfl rfl zy_184 zk_184
        dsimp only at hk h
        refine ⟨g11, r12, hk, ?_⟩
        have h := zm zy_178 h 1 (q := (cond (crel .eq r12 0) 71 58, dset (dset lf 0 (4, 253)) 1 (0, 3716), [], g11)) rfl
        dsimp only at h
        rcases zif_eq h with ⟨hc13, h⟩ | ⟨hc13, h⟩
        · refine Or.inl ⟨hc13, ?_⟩
          have h := zm zy_178 h 1 (q := (72, dset (dset lf 0 (4, 253)) 1 (0, 3716), [(0, 0)], g11)) rfl
          dsimp only at h
          exact zret zy_178 h rfl rfl
        · refine Or.inr ⟨hc13, ?_⟩
          have h := zm zy_178 h 6 (q := (65, dset (dset lf 0 (4, 253)) 1 (0, 3716), [(0, 7), (0, 0), (0, 3718), (4, 253)], g11)) rfl
          dsimp only at h
          obtain ⟨g14, r15, hk, h⟩ := zcallI zy_178 h rfl rfl zy_175 zk_175
          dsimp only at hk h
          refine ⟨g14, r15, hk, ?_⟩
          have h := zm zy_178 h 1 (q := (cond (crel .ne r15 0) 73 71, dset (dset lf 0 (4, 253)) 1 (0, 3716), [], g14)) rfl
          dsimp only at h
          rcases zif_ne h with ⟨hc16, h⟩ | ⟨hc16, h⟩
          · refine Or.inl ⟨hc16, ?_⟩
            have h := zm zy_178 h 25 (q := (109, dset (dset lf 0 (4, 253)) 1 (0, 3716), [(0, 1)], cup g14 254 ((w32 ((w32 (3027 + (w32 (8 * (g14 254 3716))))) + (g14 254 3718))).toNat) (g14 254 3717))) rfl
            dsimp only at h
            exact zret zy_178 h rfl rfl
          · refine Or.inr ⟨hc16, ?_⟩
            have h := zm zy_178 h 1 (q := (72, dset (dset lf 0 (4, 253)) 1 (0, 3716), [(0, 0)], g14)) rfl
            dsimp only at h
            exact zret zy_178 h rfl rfl
theorem m_once {sv : Nat → Int32} {L n : Nat} {lf : dlf} {g : cg} {o : cg × Option cv} {a : Int} (h : zr sv L n 174 0 lf [] g o) (h0 : lf 0 = (4, 253)) (h1 : lf 1 = (0, a)) : ((i32 ((i32 (g 253 20) >>> (i32 a &&& 31)).toInt) &&& i32 1).toInt ≠ 1 ∧ (∃ g2, zr sv L n 166 0 (darg 0 [(4, 253)]) [] (cup g 253 20 ((i32 (g 253 20) ||| i32 ((i32 1 <<< (i32 a &&& 31)).toInt)).toInt)) (g2, none) ∧ ((a ≠ 7 ∧ (∃ g4 r5, zr sv L n 175 0 (darg 0 [(4, 253), (0, w32 ((w32 (2979 + a)) - 5)), (0, 0), (0, 99)]) [] g2 (g4, some (0, r5)) ∧ (o = (g4, some (0, r5))))) ∨ (a = 7 ∧ (∃ g6 r7, zr sv L n 175 0 (darg 0 [(4, 253), (0, w32 ((w32 (2979 + a)) - 5)), (0, 0), (0, 60)]) [] g2 (g6, some (0, r7)) ∧ (o = (g6, some (0, r7)))))))) ∨ ((i32 ((i32 (g 253 20) >>> (i32 a &&& 31)).toInt) &&& i32 1).toInt = 1 ∧ (∃ g8 r9, zr sv L n 173 0 (darg 0 [(4, 253), (0, 5)]) [] g (g8, some (0, r9)) ∧ (o = (g8, some (0, r9))))) := by
  rw [zov h0, zov h1] at h
  have h := zm zy_174 h 8 (q := (cond (crel .ne ((i32 ((i32 (g 253 20) >>> (i32 a &&& 31)).toInt) &&& i32 1).toInt) 1) 18 12, dset (dset lf 1 (0, a)) 0 (4, 253), [], g)) rfl
  dsimp only at h
  rcases zif_ne h with ⟨hc1, h⟩ | ⟨hc1, h⟩
  · refine Or.inl ⟨hc1, ?_⟩
    have h := zm zy_174 h 9 (q := (31, dset (dset lf 1 (0, a)) 0 (4, 253), [(4, 253)], cup g 253 20 ((i32 (g 253 20) ||| i32 ((i32 1 <<< (i32 a &&& 31)).toInt)).toInt))) rfl
    dsimp only at h
    obtain ⟨g2, hk, h⟩ := zcallV zy_174 h rfl rfl zy_166 zk_166
    dsimp only at hk h
    refine ⟨g2, hk, ?_⟩
    have h := zm zy_174 h 10 (q := (cond (crel .ne a 7) 54 49, dset (dset lf 1 (0, a)) 0 (4, 253), [(0, 0), (0, w32 ((w32 (2979 + a)) - 5)), (4, 253)], g2)) rfl
    dsimp only at h
    rcases zif_ne h with ⟨hc3, h⟩ | ⟨hc3, h⟩
    · refine Or.inl ⟨hc3, ?_⟩
      have h := zm zy_174 h 1 (q := (56, dset (dset lf 1 (0, a)) 0 (4, 253), [(0, 99), (0, 0), (0, w32 ((w32 (2979 + a)) - 5)), (4, 253)], g2)) rfl
      dsimp only at h
      obtain ⟨g4, r5, hk, h⟩ := zcallI zy_174 h rfl rfl zy_175 zk_175
      dsimp only at hk h
      refine ⟨g4, r5, hk, ?_⟩
      exact zret zy_174 h rfl rfl
    · refine Or.inr ⟨hc3, ?_⟩
      have h := zm zy_174 h 2 (q := (56, dset (dset lf 1 (0, a)) 0 (4, 253), [(0, 60), (0, 0), (0, w32 ((w32 (2979 + a)) - 5)), (4, 253)], g2)) rfl
      dsimp only at h
      obtain ⟨g6, r7, hk, h⟩ := zcallI zy_174 h rfl rfl zy_175 zk_175
      dsimp only at hk h
      refine ⟨g6, r7, hk, ?_⟩
      exact zret zy_174 h rfl rfl
  · refine Or.inr ⟨hc1, ?_⟩
    have h := zm zy_174 h 2 (q := (14, dset (dset lf 1 (0, a)) 0 (4, 253), [(0, 5), (4, 253)], g)) rfl
    dsimp only at h
    obtain ⟨g8, r9, hk, h⟩ := zcallI zy_174 h rfl rfl zy_173 zk_173
    dsimp only at hk h
    refine ⟨g8, r9, hk, ?_⟩
    exact zret zy_174 h rfl rfl
theorem m_part {sv : Nat → Int32} {L n : Nat} {lf : dlf} {g : cg} {o : cg × Option cv} (h : zr sv L n 171 0 lf [] g o) (h0 : lf 0 = (4, 253)) : ∃ g1 r2, zr sv L n 172 0 (darg 0 [(4, 253), (6, 3)]) [] g (g1, some (0, r2)) ∧ ((r2 = 0 ∧ (∃ g3 r4, zr sv L n 190 0 (darg 0 [(4, 253)]) [] g1 (g3, some (0, r4)) ∧ (∃ lf'5, lf'5 0 = (4, 253) ∧ lf'5 1 = (0, r4) ∧ zr sv L n 171 129 lf'5 [] g3 o))) ∨ (r2 = 1 ∧ (∃ g6 r7, zr sv L n 187 0 (darg 0 [(4, 253)]) [] g1 (g6, some (0, r7)) ∧ (∃ lf'8, lf'8 0 = (4, 253) ∧ lf'8 1 = (0, r7) ∧ zr sv L n 171 129 lf'8 [] g6 o))) ∨ (r2 = 2 ∧ (∃ g9 r10, zr sv L n 185 0 (darg 0 [(4, 253), (0, 1)]) [] g1 (g9, some (0, r10)) ∧ (∃ lf'11, lf'11 0 = (4, 253) ∧ lf'11 1 = (0, r10) ∧ zr sv L n 171 129 lf'11 [] g9 o))) ∨ (r2 = 3 ∧ (∃ g12 r13, zr sv L n 185 0 (darg 0 [(4, 253), (0, 0)]) [] g1 (g12, some (0, r13)) ∧ (∃ lf'14, lf'14 0 = (4, 253) ∧ lf'14 1 = (0, r13) ∧ zr sv L n 171 129 lf'14 [] g12 o))) ∨ (r2 = 4 ∧ (∃ g15 r16, zr sv L n 178 0 (darg 0 [(4, 253)]) [] g1 (g15, some (0, r16)) ∧ (∃ lf'17, lf'17 0 = (4, 253) ∧ lf'17 1 = (0, r16) ∧ zr sv L n 171 129 lf'17 [] g15 o))) ∨ (r2 = 5 ∧ (∃ g18 r19, zr sv L n 174 0 (darg 0 [(4, 253), (0, 5)]) [] g1 (g18, some (0, r19)) ∧ (∃ lf'20, lf'20 0 = (4, 253) ∧ lf'20 1 = (0, r19) ∧ zr sv L n 171 129 lf'20 [] g18 o))) ∨ (r2 = 6 ∧ (∃ g21 r22, zr sv L n 174 0 (darg 0 [(4, 253), (0, 6)]) [] g1 (g21, some (0, r22)) ∧ (∃ lf'23, lf'23 0 = (4, 253) ∧ lf'23 1 = (0, r22) ∧ zr sv L n 171 129 lf'23 [] g21 o))) ∨ (r2 = 7 ∧ (∃ g24 r25, zr sv L n 174 0 (darg 0 [(4, 253), (0, 7)]) [] g1 (g24, some (0, r25)) ∧ (∃ lf'26, lf'26 0 = (4, 253) ∧ lf'26 1 = (0, r25) ∧ zr sv L n 171 129 lf'26 [] g24 o))) ∨ ((r2 < 0 ∨ 7 < r2) ∧ (∃ g27 r28, zr sv L n 173 0 (darg 0 [(4, 253), (0, 2)]) [] g1 (g27, some (0, r28)) ∧ (o = (g27, some (0, r28)))))) := by
  rw [zov h0] at h
  have h := zm zy_171 h 2 (q := (3, dset lf 0 (4, 253), [(6, 3), (4, 253)], g)) rfl
  dsimp only at h
  obtain ⟨g1, r2, hk, h⟩ := zcallI zy_171 h rfl rfl zy_172 zk_172
  dsimp only at hk h
  refine ⟨g1, r2, hk, ?_⟩
  rcases ztab_0_7 (z := r2) with hz | hz | hz | hz | hz | hz | hz | hz | hz
  · rw [hz] at h
    have h := zm zy_171 h 1 (q := (52, dset lf 0 (4, 253), [], g1)) rfl
    dsimp only at h
    refine Or.inl ⟨hz, ?_⟩
    have h := zm zy_171 h 1 (q := (53, dset lf 0 (4, 253), [(4, 253)], g1)) rfl
    dsimp only at h
    obtain ⟨g3, r4, hk, h⟩ := zcallI zy_171 h rfl rfl zy_190 zk_190
    dsimp only at hk h
    refine ⟨g3, r4, hk, ?_⟩
    have h := zm zy_171 h 2 (q := (129, dset (dset lf 0 (4, 253)) 1 (0, r4), [], g3)) rfl
    dsimp only at h
    exact ⟨_, rfl, rfl, h⟩
  · rw [hz] at h
    have h := zm zy_171 h 1 (q := (60, dset lf 0 (4, 253), [], g1)) rfl
    dsimp only at h
    refine Or.inr (Or.inl ⟨hz, ?_⟩)
    have h := zm zy_171 h 1 (q := (61, dset lf 0 (4, 253), [(4, 253)], g1)) rfl
    dsimp only at h
    obtain ⟨g6, r7, hk, h⟩ := zcallI zy_171 h rfl rfl zy_187 zk_187
    dsimp only at hk h
    refine ⟨g6, r7, hk, ?_⟩
    have h := zm zy_171 h 2 (q := (129, dset (dset lf 0 (4, 253)) 1 (0, r7), [], g6)) rfl
    dsimp only at h
    exact ⟨_, rfl, rfl, h⟩
  · rw [hz] at h
    have h := zm zy_171 h 1 (q := (68, dset lf 0 (4, 253), [], g1)) rfl
    dsimp only at h
    refine Or.inr (Or.inr (Or.inl ⟨hz, ?_⟩))
    have h := zm zy_171 h 2 (q := (70, dset lf 0 (4, 253), [(0, 1), (4, 253)], g1)) rfl
    dsimp only at h
    obtain ⟨g9, r10, hk, h⟩ := zcallI zy_171 h rfl rfl zy_185 zk_185
    dsimp only at hk h
    refine ⟨g9, r10, hk, ?_⟩
    have h := zm zy_171 h 2 (q := (129, dset (dset lf 0 (4, 253)) 1 (0, r10), [], g9)) rfl
    dsimp only at h
    exact ⟨_, rfl, rfl, h⟩
  · rw [hz] at h
    have h := zm zy_171 h 1 (q := (77, dset lf 0 (4, 253), [], g1)) rfl
    dsimp only at h
    refine Or.inr (Or.inr (Or.inr (Or.inl ⟨hz, ?_⟩)))
    have h := zm zy_171 h 2 (q := (79, dset lf 0 (4, 253), [(0, 0), (4, 253)], g1)) rfl
    dsimp only at h
    obtain ⟨g12, r13, hk, h⟩ := zcallI zy_171 h rfl rfl zy_185 zk_185
    dsimp only at hk h
    refine ⟨g12, r13, hk, ?_⟩
    have h := zm zy_171 h 2 (q := (129, dset (dset lf 0 (4, 253)) 1 (0, r13), [], g12)) rfl
    dsimp only at h
    exact ⟨_, rfl, rfl, h⟩
  · rw [hz] at h
    have h := zm zy_171 h 1 (q := (86, dset lf 0 (4, 253), [], g1)) rfl
    dsimp only at h
    refine Or.inr (Or.inr (Or.inr (Or.inr (Or.inl ⟨hz, ?_⟩))))
    have h := zm zy_171 h 1 (q := (87, dset lf 0 (4, 253), [(4, 253)], g1)) rfl
    dsimp only at h
    obtain ⟨g15, r16, hk, h⟩ := zcallI zy_171 h rfl rfl zy_178 zk_178
    dsimp only at hk h
    refine ⟨g15, r16, hk, ?_⟩
    have h := zm zy_171 h 2 (q := (129, dset (dset lf 0 (4, 253)) 1 (0, r16), [], g15)) rfl
    dsimp only at h
    exact ⟨_, rfl, rfl, h⟩
  · rw [hz] at h
    have h := zm zy_171 h 1 (q := (94, dset lf 0 (4, 253), [], g1)) rfl
    dsimp only at h
    refine Or.inr (Or.inr (Or.inr (Or.inr (Or.inr (Or.inl ⟨hz, ?_⟩)))))
    have h := zm zy_171 h 2 (q := (96, dset lf 0 (4, 253), [(0, 5), (4, 253)], g1)) rfl
    dsimp only at h
    obtain ⟨g18, r19, hk, h⟩ := zcallI zy_171 h rfl rfl zy_174 zk_174
    dsimp only at hk h
    refine ⟨g18, r19, hk, ?_⟩
    have h := zm zy_171 h 2 (q := (129, dset (dset lf 0 (4, 253)) 1 (0, r19), [], g18)) rfl
    dsimp only at h
    exact ⟨_, rfl, rfl, h⟩
  · rw [hz] at h
    have h := zm zy_171 h 1 (q := (103, dset lf 0 (4, 253), [], g1)) rfl
    dsimp only at h
    refine Or.inr (Or.inr (Or.inr (Or.inr (Or.inr (Or.inr (Or.inl ⟨hz, ?_⟩))))))
    have h := zm zy_171 h 2 (q := (106, dset lf 0 (4, 253), [(0, 6), (4, 253)], g1)) rfl
    dsimp only at h
    obtain ⟨g21, r22, hk, h⟩ := zcallI zy_171 h rfl rfl zy_174 zk_174
    dsimp only at hk h
    refine ⟨g21, r22, hk, ?_⟩
    have h := zm zy_171 h 2 (q := (129, dset (dset lf 0 (4, 253)) 1 (0, r22), [], g21)) rfl
    dsimp only at h
    exact ⟨_, rfl, rfl, h⟩
  · rw [hz] at h
    have h := zm zy_171 h 1 (q := (113, dset lf 0 (4, 253), [], g1)) rfl
    dsimp only at h
    refine Or.inr (Or.inr (Or.inr (Or.inr (Or.inr (Or.inr (Or.inr (Or.inl ⟨hz, ?_⟩)))))))
    have h := zm zy_171 h 2 (q := (116, dset lf 0 (4, 253), [(0, 7), (4, 253)], g1)) rfl
    dsimp only at h
    obtain ⟨g24, r25, hk, h⟩ := zcallI zy_171 h rfl rfl zy_174 zk_174
    dsimp only at hk h
    refine ⟨g24, r25, hk, ?_⟩
    have h := zm zy_171 h 2 (q := (129, dset (dset lf 0 (4, 253)) 1 (0, r25), [], g24)) rfl
    dsimp only at h
    exact ⟨_, rfl, rfl, h⟩
  · have h := ztabd h zy_171 rfl hz (by decide)
    refine Or.inr (Or.inr (Or.inr (Or.inr (Or.inr (Or.inr (Or.inr (Or.inr (⟨hz, ?_⟩))))))))
    have h := zm zy_171 h 2 (q := (125, dset lf 0 (4, 253), [(0, 2), (4, 253)], g1)) rfl
    dsimp only at h
    obtain ⟨g27, r28, hk, h⟩ := zcallI zy_171 h rfl rfl zy_173 zk_173
    dsimp only at hk h
    refine ⟨g27, r28, hk, ?_⟩
    exact zret zy_171 h rfl rfl
theorem m_part129 {sv : Nat → Int32} {L n : Nat} {lf : dlf} {g : cg} {o : cg × Option cv} {a : Int} (h : zr sv L n 171 129 lf [] g o) (h0 : lf 0 = (4, 253)) (h1 : lf 1 = (0, a)) : (a = 0 ∧ (o = (g, some (0, 0)))) ∨ (a ≠ 0 ∧ (∃ g2 r3, zr sv L n 176 0 (darg 0 [(4, 253), (0, 59)]) [] g (g2, some (0, r3)) ∧ ((r3 = 0 ∧ (o = (g2, some (0, 0)))) ∨ (r3 ≠ 0 ∧ (o = (g2, some (0, 1))))))) := by
  rw [zov h0, zov h1] at h
  have h := zm zy_171 h 2 (q := (cond (crel .eq a 0) 146 133, dset (dset lf 1 (0, a)) 0 (4, 253), [], g)) rfl
  dsimp only at h
  rcases zif_eq h with ⟨hc1, h⟩ | ⟨hc1, h⟩
  · refine Or.inl ⟨hc1, ?_⟩
    have h := zm zy_171 h 1 (q := (147, dset (dset lf 1 (0, a)) 0 (4, 253), [(0, 0)], g)) rfl
    dsimp only at h
    exact zret zy_171 h rfl rfl
  · refine Or.inr ⟨hc1, ?_⟩
    have h := zm zy_171 h 2 (q := (136, dset (dset lf 1 (0, a)) 0 (4, 253), [(0, 59), (4, 253)], g)) rfl
    dsimp only at h
    obtain ⟨g2, r3, hk, h⟩ := zcallI zy_171 h rfl rfl zy_176 zk_176
    dsimp only at hk h
    refine ⟨g2, r3, hk, ?_⟩
    have h := zm zy_171 h 1 (q := (cond (crel .eq r3 0) 146 142, dset (dset lf 1 (0, a)) 0 (4, 253), [], g2)) rfl
    dsimp only at h
    rcases zif_eq h with ⟨hc4, h⟩ | ⟨hc4, h⟩
    · refine Or.inl ⟨hc4, ?_⟩
      have h := zm zy_171 h 1 (q := (147, dset (dset lf 1 (0, a)) 0 (4, 253), [(0, 0)], g2)) rfl
      dsimp only at h
      exact zret zy_171 h rfl rfl
    · refine Or.inr ⟨hc4, ?_⟩
      have h := zm zy_171 h 2 (q := (147, dset (dset lf 1 (0, a)) 0 (4, 253), [(0, 1)], g2)) rfl
      dsimp only at h
      exact zret zy_171 h rfl rfl
theorem m_plain0 {sv : Nat → Int32} {L n : Nat} {lf : dlf} {g : cg} {o : cg × Option cv} {a : Int} (h : zr sv L n 21 0 lf [] g o) (h0 : lf 0 = (4, 253)) (h1 : lf 1 = (0, a)) : ∃ lf'1, lf'1 0 = (4, 253) ∧ lf'1 1 = (0, a) ∧ lf'1 2 = (0, 0) ∧ zr sv L n 21 2 lf'1 [] g o := by
  rw [zov h0, zov h1] at h
  have h := zm zy_21 h 2 (q := (2, dset (dset (dset lf 1 (0, a)) 0 (4, 253)) 2 (0, 0), [], g)) rfl
  dsimp only at h
  exact ⟨_, rfl, rfl, rfl, h⟩
theorem m_begins0 {sv : Nat → Int32} {L n : Nat} {lf : dlf} {g : cg} {o : cg × Option cv} {a b : Int} (h : zr sv L n 165 0 lf [] g o) (h0 : lf 0 = (4, 253)) (h1 : lf 1 = (0, a)) (h2 : lf 2 = (0, b)) : (a < 0 ∧ (o = (g, some (0, 0)))) ∨ (0 ≤ a ∧ ((g 253 10 < a ∧ (o = (g, some (0, 0)))) ∨ (a ≤ g 253 10 ∧ ((a ≤ b ∧ (∃ lf'4, lf'4 0 = (4, 253) ∧ lf'4 1 = (0, a) ∧ lf'4 3 = (0, 0) ∧ zr sv L n 165 26 lf'4 [] (cup g 253 11 a) o)) ∨ (b < a ∧ (o = (g, some (0, 0)))))))) := by
  rw [zov h0, zov h1, zov h2] at h
  have h := zm zy_165 h 2 (q := (cond (crel .lt a 0) 17 4, dset (dset (dset lf 2 (0, b)) 1 (0, a)) 0 (4, 253), [], g)) rfl
  dsimp only at h
  rcases zif_lt h with ⟨hc1, h⟩ | ⟨hc1, h⟩
  · refine Or.inl ⟨hc1, ?_⟩
    have h := zm zy_165 h 1 (q := (18, dset (dset (dset lf 2 (0, b)) 1 (0, a)) 0 (4, 253), [(0, 0)], g)) rfl
    dsimp only at h
    exact zret zy_165 h rfl rfl
  · refine Or.inr ⟨hc1, ?_⟩
    have h := zm zy_165 h 4 (q := (cond (crel .gt a (g 253 10)) 17 12, dset (dset (dset lf 2 (0, b)) 1 (0, a)) 0 (4, 253), [], g)) rfl
    dsimp only at h
    rcases zif_gt h with ⟨hc2, h⟩ | ⟨hc2, h⟩
    · refine Or.inl ⟨hc2, ?_⟩
      have h := zm zy_165 h 1 (q := (18, dset (dset (dset lf 2 (0, b)) 1 (0, a)) 0 (4, 253), [(0, 0)], g)) rfl
      dsimp only at h
      exact zret zy_165 h rfl rfl
    · refine Or.inr ⟨hc2, ?_⟩
      have h := zm zy_165 h 3 (q := (cond (crel .le a b) 19 17, dset (dset (dset lf 2 (0, b)) 1 (0, a)) 0 (4, 253), [], g)) rfl
      dsimp only at h
      rcases zif_le h with ⟨hc3, h⟩ | ⟨hc3, h⟩
      · refine Or.inl ⟨hc3, ?_⟩
        have h := zm zy_165 h 5 (q := (26, dset (dset (dset (dset lf 2 (0, b)) 1 (0, a)) 0 (4, 253)) 3 (0, 0), [], cup g 253 11 a)) rfl
        dsimp only at h
        exact ⟨_, rfl, rfl, rfl, h⟩
      · refine Or.inr ⟨hc3, ?_⟩
        have h := zm zy_165 h 1 (q := (18, dset (dset (dset lf 2 (0, b)) 1 (0, a)) 0 (4, 253), [(0, 0)], g)) rfl
        dsimp only at h
        exact zret zy_165 h rfl rfl
theorem m_begins26 {sv : Nat → Int32} {L n : Nat} {lf : dlf} {g : cg} {o : cg × Option cv} {a c : Int} (h : zr sv L (n + 1) 165 26 lf [] g o) (h0 : lf 0 = (4, 253)) (h1 : lf 1 = (0, a)) (h3 : lf 3 = (0, c)) : (a ≤ c ∧ (∃ lf'2, lf'2 0 = (4, 253) ∧ zr sv L n 165 49 lf'2 [] g o)) ∨ (c < a ∧ (0 ≤ c → c < 900 → (∃ lf'5, lf'5 0 = (4, 253) ∧ lf'5 1 = (0, a) ∧ lf'5 3 = (0, w32 (c + 1)) ∧ zr sv L n 165 26 lf'5 [] (cup g 260 ((c).toNat) ((i32 (g 259 ((c).toNat))).toInt8.toInt32.toInt)) o))) := by
  rw [zov h0, zov h1, zov h3] at h
  have h := zm1 zy_165 h 2 (q := (cond (crel .ge c a) 49 31, dset (dset (dset lf 3 (0, c)) 1 (0, a)) 0 (4, 253), [], g)) rfl
  dsimp only at h
  rcases zif_ge h with ⟨hc1, h⟩ | ⟨hc1, h⟩
  · refine Or.inl ⟨hc1, ?_⟩
    exact ⟨_, rfl, h⟩
  · refine Or.inr ⟨hc1, ?_⟩
    intro ha3 hb4
    have h := zm zy_165 h 6 (q := (41, dset (dset (dset lf 3 (0, c)) 1 (0, a)) 0 (4, 253), [(0, c), (4, 259), (0, c), (4, 260)], g)) rfl
    dsimp only at h
    have h := zald zy_165 h rfl rfl (dvb_259 ha3 hb4)
    have h : zr sv L n 165 42 (dset (dset (dset lf 3 (0, c)) 1 (0, a)) 0 (4, 253)) [(0, g 259 ((c).toNat)), (0, c), (4, 260)] (g) o := by first | exact h | (rw [cup_at] at h; exact h)
    have h := zm zy_165 h 3 (q := (26, dset (dset (dset (dset lf 3 (0, c)) 1 (0, a)) 0 (4, 253)) 3 (0, w32 (c + 1)), [], cup g 260 ((c).toNat) ((i32 (g 259 ((c).toNat))).toInt8.toInt32.toInt))) rfl
    dsimp only at h
    exact ⟨_, rfl, rfl, rfl, h⟩
theorem m_begins49 {sv : Nat → Int32} {L n : Nat} {lf : dlf} {g : cg} {o : cg × Option cv} (h : zr sv L n 165 49 lf [] g o) (h0 : lf 0 = (4, 253)) : ∃ g1, zr sv L n 166 0 (darg 0 [(4, 253)]) [] (cup (cup (cup (cup (cup g 253 10 0) 253 18 0) 253 17 ((-1))) 253 14 0) 253 19 0) (g1, none) ∧ (o = (g1, some (0, 1))) := by
  rw [zov h0] at h
  have h := zm zy_165 h 16 (q := (75, dset lf 0 (4, 253), [(4, 253)], cup (cup (cup (cup (cup g 253 10 0) 253 18 0) 253 17 ((-1))) 253 14 0) 253 19 0)) rfl
  dsimp only at h
  obtain ⟨g1, hk, h⟩ := zcallV zy_165 h rfl rfl zy_166 zk_166
  dsimp only at hk h
  refine ⟨g1, hk, ?_⟩
  have h := zm zy_165 h 1 (q := (79, dset lf 0 (4, 253), [(0, 1)], g1)) rfl
  dsimp only at h
  exact zret zy_165 h rfl rfl
theorem m_court0 {sv : Nat → Int32} {L n : Nat} {lf : dlf} {g : cg} {o : cg × Option cv} {a : Int} (h : zr sv L n 274 0 lf [] g o) (h0 : lf 0 = (4, 253)) (h1 : lf 1 = (0, a)) : ∃ g1 r2, zr sv L n 165 0 (darg 0 [(4, 253), (0, a), (0, 900)]) [] g (g1, some (0, r2)) ∧ ((r2 ≠ 0 ∧ (∃ g4, zr sv L n 21 0 (darg 0 [(4, 253), (0, 2976)]) [] g1 (g4, none) ∧ (∃ lf'5, lf'5 0 = (4, 253) ∧ lf'5 2 = (0, 1) ∧ zr sv L n 274 31 lf'5 [] (cup g4 253 20 0) o))) ∨ (r2 = 0 ∧ (∃ g6 r7, zr sv L n 170 0 (darg 0 [(4, 253), (0, 1)]) [] g1 (g6, some (0, r7)) ∧ (o = (g6, some (0, r7)))))) := by
  rw [zov h0, zov h1] at h
  have h := zm zy_274 h 3 (q := (5, dset (dset lf 1 (0, a)) 0 (4, 253), [(0, 900), (0, a), (4, 253)], g)) rfl
  dsimp only at h
  obtain ⟨g1, r2, hk, h⟩ := zcallI zy_274 h rfl rfl zy_165 zk_165
  dsimp only at hk h
  refine ⟨g1, r2, hk, ?_⟩
  have h := zm zy_274 h 1 (q := (cond (crel .ne r2 0) 17 11, dset (dset lf 1 (0, a)) 0 (4, 253), [], g1)) rfl
  dsimp only at h
  rcases zif_ne h with ⟨hc3, h⟩ | ⟨hc3, h⟩
  · refine Or.inl ⟨hc3, ?_⟩
    have h := zm zy_274 h 2 (q := (21, dset (dset lf 1 (0, a)) 0 (4, 253), [(0, 2976), (4, 253)], g1)) rfl
    dsimp only at h
    obtain ⟨g4, hk, h⟩ := zcallV zy_274 h rfl rfl zy_21 zk_21
    dsimp only at hk h
    refine ⟨g4, hk, ?_⟩
    have h := zm zy_274 h 5 (q := (31, dset (dset (dset lf 1 (0, a)) 0 (4, 253)) 2 (0, 1), [], cup g4 253 20 0)) rfl
    dsimp only at h
    exact ⟨_, rfl, rfl, h⟩
  · refine Or.inr ⟨hc3, ?_⟩
    have h := zm zy_274 h 2 (q := (13, dset (dset lf 1 (0, a)) 0 (4, 253), [(0, 1), (4, 253)], g1)) rfl
    dsimp only at h
    obtain ⟨g6, r7, hk, h⟩ := zcallI zy_274 h rfl rfl zy_170 zk_170
    dsimp only at hk h
    refine ⟨g6, r7, hk, ?_⟩
    exact zret zy_274 h rfl rfl
theorem m_court31 {sv : Nat → Int32} {L n : Nat} {lf : dlf} {g : cg} {o : cg × Option cv} {b : Int} (h : zr sv L (n + 1) 274 31 lf [] g o) (h0 : lf 0 = (4, 253)) (h2 : lf 2 = (0, b)) : (b = 0 ∧ (∃ lf'2, lf'2 0 = (4, 253) ∧ zr sv L n 274 50 lf'2 [] g o)) ∨ (b ≠ 0 ∧ ((g 253 12 = 0 ∧ (∃ lf'4, lf'4 0 = (4, 253) ∧ zr sv L n 274 50 lf'4 [] g o)) ∨ (g 253 12 ≠ 0 ∧ (∃ g5 r6, zr sv L n 171 0 (darg 0 [(4, 253)]) [] g (g5, some (0, r6)) ∧ (∃ lf'7, lf'7 0 = (4, 253) ∧ lf'7 2 = (0, r6) ∧ zr sv L n 274 31 lf'7 [] g5 o))))) := by
  rw [zov h0, zov h2] at h
  have h := zm1 zy_274 h 1 (q := (cond (crel .eq b 0) 50 35, dset (dset lf 2 (0, b)) 0 (4, 253), [], g)) rfl
  dsimp only at h
  rcases zif_eq h with ⟨hc1, h⟩ | ⟨hc1, h⟩
  · refine Or.inl ⟨hc1, ?_⟩
    exact ⟨_, rfl, h⟩
  · refine Or.inr ⟨hc1, ?_⟩
    have h := zm zy_274 h 3 (q := (cond (crel .eq (g 253 12) 0) 50 42, dset (dset lf 2 (0, b)) 0 (4, 253), [], g)) rfl
    dsimp only at h
    rcases zif_eq h with ⟨hc3, h⟩ | ⟨hc3, h⟩
    · refine Or.inl ⟨hc3, ?_⟩
      exact ⟨_, rfl, h⟩
    · refine Or.inr ⟨hc3, ?_⟩
      have h := zm zy_274 h 1 (q := (43, dset (dset lf 2 (0, b)) 0 (4, 253), [(4, 253)], g)) rfl
      dsimp only at h
      obtain ⟨g5, r6, hk, h⟩ := zcallI zy_274 h rfl rfl zy_171 zk_171
      dsimp only at hk h
      refine ⟨g5, r6, hk, ?_⟩
      have h := zm zy_274 h 2 (q := (31, dset (dset (dset lf 2 (0, b)) 0 (4, 253)) 2 (0, r6), [], g5)) rfl
      dsimp only at h
      exact ⟨_, rfl, rfl, h⟩
theorem m_court50 {sv : Nat → Int32} {L n : Nat} {lf : dlf} {g : cg} {o : cg × Option cv} (h : zr sv L n 274 50 lf [] g o) (h0 : lf 0 = (4, 253)) : (g 253 18 ≠ 0 ∧ (∃ lf'2, lf'2 0 = (4, 253) ∧ zr sv L n 274 117 lf'2 [] g o)) ∨ (g 253 18 = 0 ∧ (∃ lf'3, lf'3 0 = (4, 253) ∧ lf'3 3 = (0, 0) ∧ zr sv L n 274 59 lf'3 [] g o)) := by
  rw [zov h0] at h
  have h := zm zy_274 h 3 (q := (cond (crel .ne (g 253 18) 0) 117 57, dset lf 0 (4, 253), [], g)) rfl
  dsimp only at h
  rcases zif_ne h with ⟨hc1, h⟩ | ⟨hc1, h⟩
  · refine Or.inl ⟨hc1, ?_⟩
    exact ⟨_, rfl, h⟩
  · refine Or.inr ⟨hc1, ?_⟩
    have h := zm zy_274 h 2 (q := (59, dset (dset lf 0 (4, 253)) 3 (0, 0), [], g)) rfl
    dsimp only at h
    exact ⟨_, rfl, rfl, h⟩
theorem m_taken {sv : Nat → Int32} {L n : Nat} {lf : dlf} {g : cg} {o : cg × Option cv} {a : Int} (h : zr sv L n 191 0 lf [] g o) (h0 : lf 0 = (4, 253)) (h1 : lf 1 = (0, a)) : (g 253 18 ≤ 0 ∧ (∃ g2 r3, zr sv L n 192 0 (darg 0 [(4, 253), (0, a)]) [] (cup g 253 16 (g 253 18)) (g2, some (0, r3)) ∧ (o = (g2, some (0, r3))))) ∨ (0 < g 253 18 ∧ (∃ g4 r5, zr sv L n 170 0 (darg 0 [(4, 253), (0, 9)]) [] (cup g 253 16 (g 253 18)) (g4, some (0, r5)) ∧ (o = (g4, some (0, r5))))) := by
  rw [zov h0, zov h1] at h
  have h := zm zy_191 h 7 (q := (cond (crel .le (g 253 18) 0) 24 15, dset (dset lf 1 (0, a)) 0 (4, 253), [], cup g 253 16 (g 253 18))) rfl
  dsimp only at h
  rcases zif_le h with ⟨hc1, h⟩ | ⟨hc1, h⟩
  · refine Or.inl ⟨hc1, ?_⟩
    have h := zm zy_191 h 2 (q := (26, dset (dset lf 1 (0, a)) 0 (4, 253), [(0, a), (4, 253)], cup g 253 16 (g 253 18))) rfl
    dsimp only at h
    obtain ⟨g2, r3, hk, h⟩ := zcallI zy_191 h rfl rfl zy_192 zk_192
    dsimp only at hk h
    refine ⟨g2, r3, hk, ?_⟩
    exact zret zy_191 h rfl rfl
  · refine Or.inr ⟨hc1, ?_⟩
    have h := zm zy_191 h 2 (q := (18, dset (dset lf 1 (0, a)) 0 (4, 253), [(0, 9), (4, 253)], cup g 253 16 (g 253 18))) rfl
    dsimp only at h
    obtain ⟨g4, r5, hk, h⟩ := zcallI zy_191 h rfl rfl zy_170 zk_170
    dsimp only at hk h
    refine ⟨g4, r5, hk, ?_⟩
    have h := zm zy_191 h 1 (q := (29, dset (dset lf 1 (0, a)) 0 (4, 253), [(0, r5)], g4)) rfl
    dsimp only at h
    exact zret zy_191 h rfl rfl
theorem m_refuse {sv : Nat → Int32} {L n : Nat} {lf : dlf} {g : cg} {o : cg × Option cv} {a : Int} (h : zr sv L n 170 0 lf [] g o) (h0 : lf 0 = (4, 253)) (h1 : lf 1 = (0, a)) : o = (cup g 253 2 a, some (0, (-1))) := by
  rw [zov h0, zov h1] at h
  have h := zm zy_170 h 4 (q := (6, dset (dset lf 1 (0, a)) 0 (4, 253), [(0, (-1))], cup g 253 2 a)) rfl
  dsimp only at h
  exact zret zy_170 h rfl rfl
theorem m_gives {sv : Nat → Int32} {L n : Nat} {lf : dlf} {g : cg} {o : cg × Option cv} {a : Int} (h : zr sv L n 192 0 lf [] g o) (h0 : lf 0 = (4, 253)) (h1 : lf 1 = (0, a)) : o = (cup g 253 2 0, some (0, a)) := by
  rw [zov h0, zov h1] at h
  have h := zm zy_192 h 4 (q := (6, dset (dset lf 1 (0, a)) 0 (4, 253), [(0, a)], cup g 253 2 0)) rfl
  dsimp only at h
  exact zret zy_192 h rfl rfl
end
